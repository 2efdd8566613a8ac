theorem dX11_init_0 : decode cX11_init 0 = .ok (.aload_n 0, 1) := by decide +kernel
theorem dX11_init_1 : decode cX11_init 1 = .ok (.invokespecial 1, 3) := by decide +kernel
theorem dX11_init_4 : decode cX11_init 4 = .ok (.aload_n 0, 1) := by decide +kernel
theorem dX11_init_5 : decode cX11_init 5 = .ok (.iconst (-1), 1) := by decide +kernel
theorem dX11_init_6 : decode cX11_init 6 = .ok (.putfield 7, 3) := by decide +kernel
theorem dX11_init_9 : decode cX11_init 9 = .ok (.aload_n 0, 1) := by decide +kernel
theorem dX11_init_10 : decode cX11_init 10 = .ok (.iconst 4, 1) := by decide +kernel
theorem dX11_init_11 : decode cX11_init 11 = .ok (.newarray .int, 2) := by decide +kernel
theorem dX11_init_13 : decode cX11_init 13 = .ok (.putfield 13, 3) := by decide +kernel
theorem dX11_init_16 : decode cX11_init 16 = .ok (.aload_n 0, 1) := by decide +kernel
theorem dX11_init_17 : decode cX11_init 17 = .ok (.bipush 16, 2) := by decide +kernel
theorem dX11_init_19 : decode cX11_init 19 = .ok (.newarray .int, 2) := by decide +kernel
theorem dX11_init_21 : decode cX11_init 21 = .ok (.putfield 17, 3) := by decide +kernel
theorem dX11_init_24 : decode cX11_init 24 = .ok (.aload_n 0, 1) := by decide +kernel
theorem dX11_init_25 : decode cX11_init 25 = .ok (.bipush 12, 2) := by decide +kernel
theorem dX11_init_27 : decode cX11_init 27 = .ok (.newarray .int, 2) := by decide +kernel
theorem dX11_init_29 : decode cX11_init 29 = .ok (.putfield 20, 3) := by decide +kernel
theorem dX11_init_32 : decode cX11_init 32 = .ok (.aload_n 0, 1) := by decide +kernel
theorem dX11_init_33 : decode cX11_init 33 = .ok (.bipush 16, 2) := by decide +kernel
theorem dX11_init_35 : decode cX11_init 35 = .ok (.newarray .int, 2) := by decide +kernel
theorem dX11_init_37 : decode cX11_init 37 = .ok (.putfield 23, 3) := by decide +kernel
theorem dX11_init_40 : decode cX11_init 40 = .ok (.aload_n 0, 1) := by decide +kernel
theorem dX11_init_41 : decode cX11_init 41 = .ok (.bipush 9, 2) := by decide +kernel
theorem dX11_init_43 : decode cX11_init 43 = .ok (.newarray .int, 2) := by decide +kernel
theorem dX11_init_45 : decode cX11_init 45 = .ok (.putfield 26, 3) := by decide +kernel
theorem dX11_init_48 : decode cX11_init 48 = .ok (.aload_n 0, 1) := by decide +kernel
theorem dX11_init_49 : decode cX11_init 49 = .ok (.bipush 16, 2) := by decide +kernel
theorem dX11_init_51 : decode cX11_init 51 = .ok (.newarray .int, 2) := by decide +kernel
theorem dX11_init_53 : decode cX11_init 53 = .ok (.putfield 29, 3) := by decide +kernel
theorem dX11_init_56 : decode cX11_init 56 = .ok (.aload_n 0, 1) := by decide +kernel
theorem dX11_init_57 : decode cX11_init 57 = .ok (.bipush 16, 2) := by decide +kernel
theorem dX11_init_59 : decode cX11_init 59 = .ok (.newarray .int, 2) := by decide +kernel
theorem dX11_init_61 : decode cX11_init 61 = .ok (.putfield 32, 3) := by decide +kernel
theorem dX11_init_64 : decode cX11_init 64 = .ok (.aload_n 0, 1) := by decide +kernel
theorem dX11_init_65 : decode cX11_init 65 = .ok (.bipush 16, 2) := by decide +kernel
theorem dX11_init_67 : decode cX11_init 67 = .ok (.newarray .int, 2) := by decide +kernel
theorem dX11_init_69 : decode cX11_init 69 = .ok (.putfield 35, 3) := by decide +kernel
theorem dX11_init_72 : decode cX11_init 72 = .ok (.aload_n 0, 1) := by decide +kernel
theorem dX11_init_73 : decode cX11_init 73 = .ok (.bipush 16, 2) := by decide +kernel
theorem dX11_init_75 : decode cX11_init 75 = .ok (.newarray .int, 2) := by decide +kernel
theorem dX11_init_77 : decode cX11_init 77 = .ok (.putfield 38, 3) := by decide +kernel
theorem dX11_init_80 : decode cX11_init 80 = .ok (.aload_n 0, 1) := by decide +kernel
theorem dX11_init_81 : decode cX11_init 81 = .ok (.bipush 16, 2) := by decide +kernel
theorem dX11_init_83 : decode cX11_init 83 = .ok (.newarray .int, 2) := by decide +kernel
theorem dX11_init_85 : decode cX11_init 85 = .ok (.putfield 41, 3) := by decide +kernel
theorem dX11_init_88 : decode cX11_init 88 = .ok (.aload_n 0, 1) := by decide +kernel
theorem dX11_init_89 : decode cX11_init 89 = .ok (.bipush 16, 2) := by decide +kernel
theorem dX11_init_91 : decode cX11_init 91 = .ok (.newarray .int, 2) := by decide +kernel
theorem dX11_init_93 : decode cX11_init 93 = .ok (.putfield 44, 3) := by decide +kernel
theorem dX11_init_96 : decode cX11_init 96 = .ok (.return_, 1) := by decide +kernel
theorem dX11_copy_0 : decode cX11_copy 0 = .ok (.new 8, 3) := by decide +kernel
theorem dX11_copy_3 : decode cX11_copy 3 = .ok (.dup, 1) := by decide +kernel
theorem dX11_copy_4 : decode cX11_copy 4 = .ok (.invokespecial 47, 3) := by decide +kernel
theorem dX11_copy_7 : decode cX11_copy 7 = .ok (.astore_n 1, 1) := by decide +kernel
theorem dX11_copy_8 : decode cX11_copy 8 = .ok (.aload_n 1, 1) := by decide +kernel
theorem dX11_copy_9 : decode cX11_copy 9 = .ok (.aload_n 0, 1) := by decide +kernel
theorem dX11_copy_10 : decode cX11_copy 10 = .ok (.getfield 48, 3) := by decide +kernel
theorem dX11_copy_13 : decode cX11_copy 13 = .ok (.putfield 48, 3) := by decide +kernel
theorem dX11_copy_16 : decode cX11_copy 16 = .ok (.aload_n 1, 1) := by decide +kernel
theorem dX11_copy_17 : decode cX11_copy 17 = .ok (.aload_n 0, 1) := by decide +kernel
theorem dX11_copy_18 : decode cX11_copy 18 = .ok (.getfield 51, 3) := by decide +kernel
theorem dX11_copy_21 : decode cX11_copy 21 = .ok (.putfield 51, 3) := by decide +kernel
theorem dX11_copy_24 : decode cX11_copy 24 = .ok (.aload_n 1, 1) := by decide +kernel
theorem dX11_copy_25 : decode cX11_copy 25 = .ok (.aload_n 0, 1) := by decide +kernel
theorem dX11_copy_26 : decode cX11_copy 26 = .ok (.getfield 54, 3) := by decide +kernel
theorem dX11_copy_29 : decode cX11_copy 29 = .ok (.putfield 54, 3) := by decide +kernel
theorem dX11_copy_32 : decode cX11_copy 32 = .ok (.aload_n 1, 1) := by decide +kernel
theorem dX11_copy_33 : decode cX11_copy 33 = .ok (.aload_n 0, 1) := by decide +kernel
theorem dX11_copy_34 : decode cX11_copy 34 = .ok (.getfield 57, 3) := by decide +kernel
theorem dX11_copy_37 : decode cX11_copy 37 = .ok (.putfield 57, 3) := by decide +kernel
theorem dX11_copy_40 : decode cX11_copy 40 = .ok (.aload_n 1, 1) := by decide +kernel
theorem dX11_copy_41 : decode cX11_copy 41 = .ok (.aload_n 0, 1) := by decide +kernel
theorem dX11_copy_42 : decode cX11_copy 42 = .ok (.getfield 60, 3) := by decide +kernel
theorem dX11_copy_45 : decode cX11_copy 45 = .ok (.putfield 60, 3) := by decide +kernel
theorem dX11_copy_48 : decode cX11_copy 48 = .ok (.aload_n 1, 1) := by decide +kernel
theorem dX11_copy_49 : decode cX11_copy 49 = .ok (.aload_n 0, 1) := by decide +kernel
theorem dX11_copy_50 : decode cX11_copy 50 = .ok (.getfield 63, 3) := by decide +kernel
theorem dX11_copy_53 : decode cX11_copy 53 = .ok (.putfield 63, 3) := by decide +kernel
theorem dX11_copy_56 : decode cX11_copy 56 = .ok (.aload_n 1, 1) := by decide +kernel
theorem dX11_copy_57 : decode cX11_copy 57 = .ok (.aload_n 0, 1) := by decide +kernel
theorem dX11_copy_58 : decode cX11_copy 58 = .ok (.getfield 66, 3) := by decide +kernel
theorem dX11_copy_61 : decode cX11_copy 61 = .ok (.putfield 66, 3) := by decide +kernel
theorem dX11_copy_64 : decode cX11_copy 64 = .ok (.aload_n 1, 1) := by decide +kernel
theorem dX11_copy_65 : decode cX11_copy 65 = .ok (.aload_n 0, 1) := by decide +kernel
theorem dX11_copy_66 : decode cX11_copy 66 = .ok (.getfield 69, 3) := by decide +kernel
theorem dX11_copy_69 : decode cX11_copy 69 = .ok (.putfield 69, 3) := by decide +kernel
theorem dX11_copy_72 : decode cX11_copy 72 = .ok (.aload_n 1, 1) := by decide +kernel
theorem dX11_copy_73 : decode cX11_copy 73 = .ok (.aload_n 0, 1) := by decide +kernel
theorem dX11_copy_74 : decode cX11_copy 74 = .ok (.getfield 72, 3) := by decide +kernel
theorem dX11_copy_77 : decode cX11_copy 77 = .ok (.putfield 72, 3) := by decide +kernel
theorem dX11_copy_80 : decode cX11_copy 80 = .ok (.aload_n 1, 1) := by decide +kernel
theorem dX11_copy_81 : decode cX11_copy 81 = .ok (.aload_n 0, 1) := by decide +kernel
theorem dX11_copy_82 : decode cX11_copy 82 = .ok (.getfield 75, 3) := by decide +kernel
theorem dX11_copy_85 : decode cX11_copy 85 = .ok (.putfield 75, 3) := by decide +kernel
theorem dX11_copy_88 : decode cX11_copy 88 = .ok (.aload_n 1, 1) := by decide +kernel
theorem dX11_copy_89 : decode cX11_copy 89 = .ok (.aload_n 0, 1) := by decide +kernel
theorem dX11_copy_90 : decode cX11_copy 90 = .ok (.getfield 78, 3) := by decide +kernel
theorem dX11_copy_93 : decode cX11_copy 93 = .ok (.putfield 78, 3) := by decide +kernel
theorem dX11_copy_96 : decode cX11_copy 96 = .ok (.aload_n 1, 1) := by decide +kernel
theorem dX11_copy_97 : decode cX11_copy 97 = .ok (.aload_n 0, 1) := by decide +kernel
theorem dX11_copy_98 : decode cX11_copy 98 = .ok (.getfield 7, 3) := by decide +kernel
theorem dX11_copy_101 : decode cX11_copy 101 = .ok (.putfield 7, 3) := by decide +kernel
theorem dX11_copy_104 : decode cX11_copy 104 = .ok (.iconst 0, 1) := by decide +kernel
theorem dX11_copy_105 : decode cX11_copy 105 = .ok (.istore_n 2, 1) := by decide +kernel
theorem dX11_copy_106 : decode cX11_copy 106 = .ok (.iload_n 2, 1) := by decide +kernel
theorem dX11_copy_107 : decode cX11_copy 107 = .ok (.iconst 4, 1) := by decide +kernel
theorem dX11_copy_108 : decode cX11_copy 108 = .ok (.if_icmp .ge 21, 3) := by decide +kernel
theorem dX11_copy_111 : decode cX11_copy 111 = .ok (.aload_n 1, 1) := by decide +kernel
theorem dX11_copy_112 : decode cX11_copy 112 = .ok (.getfield 13, 3) := by decide +kernel
theorem dX11_copy_115 : decode cX11_copy 115 = .ok (.iload_n 2, 1) := by decide +kernel
theorem dX11_copy_116 : decode cX11_copy 116 = .ok (.aload_n 0, 1) := by decide +kernel
theorem dX11_copy_117 : decode cX11_copy 117 = .ok (.getfield 13, 3) := by decide +kernel
theorem dX11_copy_120 : decode cX11_copy 120 = .ok (.iload_n 2, 1) := by decide +kernel
theorem dX11_copy_121 : decode cX11_copy 121 = .ok (.iaload, 1) := by decide +kernel
theorem dX11_copy_122 : decode cX11_copy 122 = .ok (.iastore, 1) := by decide +kernel
theorem dX11_copy_123 : decode cX11_copy 123 = .ok (.iinc 2 1, 3) := by decide +kernel
theorem dX11_copy_126 : decode cX11_copy 126 = .ok (.goto (-20), 3) := by decide +kernel
theorem dX11_copy_129 : decode cX11_copy 129 = .ok (.iconst 0, 1) := by decide +kernel
theorem dX11_copy_130 : decode cX11_copy 130 = .ok (.istore_n 2, 1) := by decide +kernel
theorem dX11_copy_131 : decode cX11_copy 131 = .ok (.iload_n 2, 1) := by decide +kernel
theorem dX11_copy_132 : decode cX11_copy 132 = .ok (.bipush 12, 2) := by decide +kernel
theorem dX11_copy_134 : decode cX11_copy 134 = .ok (.if_icmp .ge 21, 3) := by decide +kernel
theorem dX11_copy_137 : decode cX11_copy 137 = .ok (.aload_n 1, 1) := by decide +kernel
theorem dX11_copy_138 : decode cX11_copy 138 = .ok (.getfield 20, 3) := by decide +kernel
theorem dX11_copy_141 : decode cX11_copy 141 = .ok (.iload_n 2, 1) := by decide +kernel
theorem dX11_copy_142 : decode cX11_copy 142 = .ok (.aload_n 0, 1) := by decide +kernel
theorem dX11_copy_143 : decode cX11_copy 143 = .ok (.getfield 20, 3) := by decide +kernel
theorem dX11_copy_146 : decode cX11_copy 146 = .ok (.iload_n 2, 1) := by decide +kernel
theorem dX11_copy_147 : decode cX11_copy 147 = .ok (.iaload, 1) := by decide +kernel
theorem dX11_copy_148 : decode cX11_copy 148 = .ok (.iastore, 1) := by decide +kernel
theorem dX11_copy_149 : decode cX11_copy 149 = .ok (.iinc 2 1, 3) := by decide +kernel
theorem dX11_copy_152 : decode cX11_copy 152 = .ok (.goto (-21), 3) := by decide +kernel
theorem dX11_copy_155 : decode cX11_copy 155 = .ok (.iconst 0, 1) := by decide +kernel
theorem dX11_copy_156 : decode cX11_copy 156 = .ok (.istore_n 2, 1) := by decide +kernel
theorem dX11_copy_157 : decode cX11_copy 157 = .ok (.iload_n 2, 1) := by decide +kernel
theorem dX11_copy_158 : decode cX11_copy 158 = .ok (.bipush 9, 2) := by decide +kernel
theorem dX11_copy_160 : decode cX11_copy 160 = .ok (.if_icmp .ge 21, 3) := by decide +kernel
theorem dX11_copy_163 : decode cX11_copy 163 = .ok (.aload_n 1, 1) := by decide +kernel
theorem dX11_copy_164 : decode cX11_copy 164 = .ok (.getfield 26, 3) := by decide +kernel
theorem dX11_copy_167 : decode cX11_copy 167 = .ok (.iload_n 2, 1) := by decide +kernel
theorem dX11_copy_168 : decode cX11_copy 168 = .ok (.aload_n 0, 1) := by decide +kernel
theorem dX11_copy_169 : decode cX11_copy 169 = .ok (.getfield 26, 3) := by decide +kernel
theorem dX11_copy_172 : decode cX11_copy 172 = .ok (.iload_n 2, 1) := by decide +kernel
theorem dX11_copy_173 : decode cX11_copy 173 = .ok (.iaload, 1) := by decide +kernel
theorem dX11_copy_174 : decode cX11_copy 174 = .ok (.iastore, 1) := by decide +kernel
theorem dX11_copy_175 : decode cX11_copy 175 = .ok (.iinc 2 1, 3) := by decide +kernel
theorem dX11_copy_178 : decode cX11_copy 178 = .ok (.goto (-21), 3) := by decide +kernel
theorem dX11_copy_181 : decode cX11_copy 181 = .ok (.iconst 0, 1) := by decide +kernel
theorem dX11_copy_182 : decode cX11_copy 182 = .ok (.istore_n 2, 1) := by decide +kernel
theorem dX11_copy_183 : decode cX11_copy 183 = .ok (.iload_n 2, 1) := by decide +kernel
theorem dX11_copy_184 : decode cX11_copy 184 = .ok (.bipush 16, 2) := by decide +kernel
theorem dX11_copy_186 : decode cX11_copy 186 = .ok (.if_icmp .ge 105, 3) := by decide +kernel
theorem dX11_copy_189 : decode cX11_copy 189 = .ok (.aload_n 1, 1) := by decide +kernel
theorem dX11_copy_190 : decode cX11_copy 190 = .ok (.getfield 17, 3) := by decide +kernel
theorem dX11_copy_193 : decode cX11_copy 193 = .ok (.iload_n 2, 1) := by decide +kernel
theorem dX11_copy_194 : decode cX11_copy 194 = .ok (.aload_n 0, 1) := by decide +kernel
theorem dX11_copy_195 : decode cX11_copy 195 = .ok (.getfield 17, 3) := by decide +kernel
theorem dX11_copy_198 : decode cX11_copy 198 = .ok (.iload_n 2, 1) := by decide +kernel
theorem dX11_copy_199 : decode cX11_copy 199 = .ok (.iaload, 1) := by decide +kernel
theorem dX11_copy_200 : decode cX11_copy 200 = .ok (.iastore, 1) := by decide +kernel
theorem dX11_copy_201 : decode cX11_copy 201 = .ok (.aload_n 1, 1) := by decide +kernel
theorem dX11_copy_202 : decode cX11_copy 202 = .ok (.getfield 23, 3) := by decide +kernel
theorem dX11_copy_205 : decode cX11_copy 205 = .ok (.iload_n 2, 1) := by decide +kernel
theorem dX11_copy_206 : decode cX11_copy 206 = .ok (.aload_n 0, 1) := by decide +kernel
theorem dX11_copy_207 : decode cX11_copy 207 = .ok (.getfield 23, 3) := by decide +kernel
theorem dX11_copy_210 : decode cX11_copy 210 = .ok (.iload_n 2, 1) := by decide +kernel
theorem dX11_copy_211 : decode cX11_copy 211 = .ok (.iaload, 1) := by decide +kernel
theorem dX11_copy_212 : decode cX11_copy 212 = .ok (.iastore, 1) := by decide +kernel
theorem dX11_copy_213 : decode cX11_copy 213 = .ok (.aload_n 1, 1) := by decide +kernel
theorem dX11_copy_214 : decode cX11_copy 214 = .ok (.getfield 29, 3) := by decide +kernel
theorem dX11_copy_217 : decode cX11_copy 217 = .ok (.iload_n 2, 1) := by decide +kernel
theorem dX11_copy_218 : decode cX11_copy 218 = .ok (.aload_n 0, 1) := by decide +kernel
theorem dX11_copy_219 : decode cX11_copy 219 = .ok (.getfield 29, 3) := by decide +kernel
theorem dX11_copy_222 : decode cX11_copy 222 = .ok (.iload_n 2, 1) := by decide +kernel
theorem dX11_copy_223 : decode cX11_copy 223 = .ok (.iaload, 1) := by decide +kernel
theorem dX11_copy_224 : decode cX11_copy 224 = .ok (.iastore, 1) := by decide +kernel
theorem dX11_copy_225 : decode cX11_copy 225 = .ok (.aload_n 1, 1) := by decide +kernel
theorem dX11_copy_226 : decode cX11_copy 226 = .ok (.getfield 32, 3) := by decide +kernel
theorem dX11_copy_229 : decode cX11_copy 229 = .ok (.iload_n 2, 1) := by decide +kernel
theorem dX11_copy_230 : decode cX11_copy 230 = .ok (.aload_n 0, 1) := by decide +kernel
theorem dX11_copy_231 : decode cX11_copy 231 = .ok (.getfield 32, 3) := by decide +kernel
theorem dX11_copy_234 : decode cX11_copy 234 = .ok (.iload_n 2, 1) := by decide +kernel
theorem dX11_copy_235 : decode cX11_copy 235 = .ok (.iaload, 1) := by decide +kernel
theorem dX11_copy_236 : decode cX11_copy 236 = .ok (.iastore, 1) := by decide +kernel
theorem dX11_copy_237 : decode cX11_copy 237 = .ok (.aload_n 1, 1) := by decide +kernel
theorem dX11_copy_238 : decode cX11_copy 238 = .ok (.getfield 35, 3) := by decide +kernel
theorem dX11_copy_241 : decode cX11_copy 241 = .ok (.iload_n 2, 1) := by decide +kernel
theorem dX11_copy_242 : decode cX11_copy 242 = .ok (.aload_n 0, 1) := by decide +kernel
theorem dX11_copy_243 : decode cX11_copy 243 = .ok (.getfield 35, 3) := by decide +kernel
theorem dX11_copy_246 : decode cX11_copy 246 = .ok (.iload_n 2, 1) := by decide +kernel
theorem dX11_copy_247 : decode cX11_copy 247 = .ok (.iaload, 1) := by decide +kernel
theorem dX11_copy_248 : decode cX11_copy 248 = .ok (.iastore, 1) := by decide +kernel
theorem dX11_copy_249 : decode cX11_copy 249 = .ok (.aload_n 1, 1) := by decide +kernel
theorem dX11_copy_250 : decode cX11_copy 250 = .ok (.getfield 38, 3) := by decide +kernel
theorem dX11_copy_253 : decode cX11_copy 253 = .ok (.iload_n 2, 1) := by decide +kernel
theorem dX11_copy_254 : decode cX11_copy 254 = .ok (.aload_n 0, 1) := by decide +kernel
theorem dX11_copy_255 : decode cX11_copy 255 = .ok (.getfield 38, 3) := by decide +kernel
theorem dX11_copy_258 : decode cX11_copy 258 = .ok (.iload_n 2, 1) := by decide +kernel
theorem dX11_copy_259 : decode cX11_copy 259 = .ok (.iaload, 1) := by decide +kernel
theorem dX11_copy_260 : decode cX11_copy 260 = .ok (.iastore, 1) := by decide +kernel
theorem dX11_copy_261 : decode cX11_copy 261 = .ok (.aload_n 1, 1) := by decide +kernel
theorem dX11_copy_262 : decode cX11_copy 262 = .ok (.getfield 41, 3) := by decide +kernel
theorem dX11_copy_265 : decode cX11_copy 265 = .ok (.iload_n 2, 1) := by decide +kernel
theorem dX11_copy_266 : decode cX11_copy 266 = .ok (.aload_n 0, 1) := by decide +kernel
theorem dX11_copy_267 : decode cX11_copy 267 = .ok (.getfield 41, 3) := by decide +kernel
theorem dX11_copy_270 : decode cX11_copy 270 = .ok (.iload_n 2, 1) := by decide +kernel
theorem dX11_copy_271 : decode cX11_copy 271 = .ok (.iaload, 1) := by decide +kernel
theorem dX11_copy_272 : decode cX11_copy 272 = .ok (.iastore, 1) := by decide +kernel
theorem dX11_copy_273 : decode cX11_copy 273 = .ok (.aload_n 1, 1) := by decide +kernel
theorem dX11_copy_274 : decode cX11_copy 274 = .ok (.getfield 44, 3) := by decide +kernel
theorem dX11_copy_277 : decode cX11_copy 277 = .ok (.iload_n 2, 1) := by decide +kernel
theorem dX11_copy_278 : decode cX11_copy 278 = .ok (.aload_n 0, 1) := by decide +kernel
theorem dX11_copy_279 : decode cX11_copy 279 = .ok (.getfield 44, 3) := by decide +kernel
theorem dX11_copy_282 : decode cX11_copy 282 = .ok (.iload_n 2, 1) := by decide +kernel
theorem dX11_copy_283 : decode cX11_copy 283 = .ok (.iaload, 1) := by decide +kernel
theorem dX11_copy_284 : decode cX11_copy 284 = .ok (.iastore, 1) := by decide +kernel
theorem dX11_copy_285 : decode cX11_copy 285 = .ok (.iinc 2 1, 3) := by decide +kernel
theorem dX11_copy_288 : decode cX11_copy 288 = .ok (.goto (-105), 3) := by decide +kernel
theorem dX11_copy_291 : decode cX11_copy 291 = .ok (.aload_n 1, 1) := by decide +kernel
theorem dX11_copy_292 : decode cX11_copy 292 = .ok (.areturn, 1) := by decide +kernel
theorem dX11_lockerOf_0 : decode cX11_lockerOf 0 = .ok (.iconst 0, 1) := by decide +kernel
theorem dX11_lockerOf_1 : decode cX11_lockerOf 1 = .ok (.istore_n 2, 1) := by decide +kernel
theorem dX11_lockerOf_2 : decode cX11_lockerOf 2 = .ok (.iload_n 2, 1) := by decide +kernel
theorem dX11_lockerOf_3 : decode cX11_lockerOf 3 = .ok (.aload_n 0, 1) := by decide +kernel
theorem dX11_lockerOf_4 : decode cX11_lockerOf 4 = .ok (.getfield 48, 3) := by decide +kernel
theorem dX11_lockerOf_7 : decode cX11_lockerOf 7 = .ok (.if_icmp .ge 21, 3) := by decide +kernel
theorem dX11_lockerOf_10 : decode cX11_lockerOf 10 = .ok (.aload_n 0, 1) := by decide +kernel
theorem dX11_lockerOf_11 : decode cX11_lockerOf 11 = .ok (.getfield 20, 3) := by decide +kernel
theorem dX11_lockerOf_14 : decode cX11_lockerOf 14 = .ok (.iload_n 2, 1) := by decide +kernel
theorem dX11_lockerOf_15 : decode cX11_lockerOf 15 = .ok (.iaload, 1) := by decide +kernel
theorem dX11_lockerOf_16 : decode cX11_lockerOf 16 = .ok (.iload_n 1, 1) := by decide +kernel
theorem dX11_lockerOf_17 : decode cX11_lockerOf 17 = .ok (.if_icmp .ne 5, 3) := by decide +kernel
theorem dX11_lockerOf_20 : decode cX11_lockerOf 20 = .ok (.iload_n 2, 1) := by decide +kernel
theorem dX11_lockerOf_21 : decode cX11_lockerOf 21 = .ok (.ireturn, 1) := by decide +kernel
theorem dX11_lockerOf_22 : decode cX11_lockerOf 22 = .ok (.iinc 2 1, 3) := by decide +kernel
theorem dX11_lockerOf_25 : decode cX11_lockerOf 25 = .ok (.goto (-23), 3) := by decide +kernel
theorem dX11_lockerOf_28 : decode cX11_lockerOf 28 = .ok (.iconst (-1), 1) := by decide +kernel
theorem dX11_lockerOf_29 : decode cX11_lockerOf 29 = .ok (.ireturn, 1) := by decide +kernel
theorem dX11_pegOf_0 : decode cX11_pegOf 0 = .ok (.iconst 0, 1) := by decide +kernel
theorem dX11_pegOf_1 : decode cX11_pegOf 1 = .ok (.istore_n 2, 1) := by decide +kernel
theorem dX11_pegOf_2 : decode cX11_pegOf 2 = .ok (.iload_n 2, 1) := by decide +kernel
theorem dX11_pegOf_3 : decode cX11_pegOf 3 = .ok (.aload_n 0, 1) := by decide +kernel
theorem dX11_pegOf_4 : decode cX11_pegOf 4 = .ok (.getfield 51, 3) := by decide +kernel
theorem dX11_pegOf_7 : decode cX11_pegOf 7 = .ok (.if_icmp .ge 21, 3) := by decide +kernel
theorem dX11_pegOf_10 : decode cX11_pegOf 10 = .ok (.aload_n 0, 1) := by decide +kernel
theorem dX11_pegOf_11 : decode cX11_pegOf 11 = .ok (.getfield 17, 3) := by decide +kernel
theorem dX11_pegOf_14 : decode cX11_pegOf 14 = .ok (.iload_n 2, 1) := by decide +kernel
theorem dX11_pegOf_15 : decode cX11_pegOf 15 = .ok (.iaload, 1) := by decide +kernel
theorem dX11_pegOf_16 : decode cX11_pegOf 16 = .ok (.iload_n 1, 1) := by decide +kernel
theorem dX11_pegOf_17 : decode cX11_pegOf 17 = .ok (.if_icmp .ne 5, 3) := by decide +kernel
theorem dX11_pegOf_20 : decode cX11_pegOf 20 = .ok (.iload_n 2, 1) := by decide +kernel
theorem dX11_pegOf_21 : decode cX11_pegOf 21 = .ok (.ireturn, 1) := by decide +kernel
theorem dX11_pegOf_22 : decode cX11_pegOf 22 = .ok (.iinc 2 1, 3) := by decide +kernel
theorem dX11_pegOf_25 : decode cX11_pegOf 25 = .ok (.goto (-23), 3) := by decide +kernel
theorem dX11_pegOf_28 : decode cX11_pegOf 28 = .ok (.iconst (-1), 1) := by decide +kernel
theorem dX11_pegOf_29 : decode cX11_pegOf 29 = .ok (.ireturn, 1) := by decide +kernel
theorem dX11_holder_0 : decode cX11_holder 0 = .ok (.iconst 0, 1) := by decide +kernel
theorem dX11_holder_1 : decode cX11_holder 1 = .ok (.istore_n 2, 1) := by decide +kernel
theorem dX11_holder_2 : decode cX11_holder 2 = .ok (.iload_n 2, 1) := by decide +kernel
theorem dX11_holder_3 : decode cX11_holder 3 = .ok (.aload_n 0, 1) := by decide +kernel
theorem dX11_holder_4 : decode cX11_holder 4 = .ok (.getfield 78, 3) := by decide +kernel
theorem dX11_holder_7 : decode cX11_holder 7 = .ok (.if_icmp .ge 21, 3) := by decide +kernel
theorem dX11_holder_10 : decode cX11_holder 10 = .ok (.aload_n 0, 1) := by decide +kernel
theorem dX11_holder_11 : decode cX11_holder 11 = .ok (.getfield 35, 3) := by decide +kernel
theorem dX11_holder_14 : decode cX11_holder 14 = .ok (.iload_n 2, 1) := by decide +kernel
theorem dX11_holder_15 : decode cX11_holder 15 = .ok (.iaload, 1) := by decide +kernel
theorem dX11_holder_16 : decode cX11_holder 16 = .ok (.iload_n 1, 1) := by decide +kernel
theorem dX11_holder_17 : decode cX11_holder 17 = .ok (.if_icmp .ne 5, 3) := by decide +kernel
theorem dX11_holder_20 : decode cX11_holder 20 = .ok (.iload_n 2, 1) := by decide +kernel
theorem dX11_holder_21 : decode cX11_holder 21 = .ok (.ireturn, 1) := by decide +kernel
theorem dX11_holder_22 : decode cX11_holder 22 = .ok (.iinc 2 1, 3) := by decide +kernel
theorem dX11_holder_25 : decode cX11_holder 25 = .ok (.goto (-23), 3) := by decide +kernel
theorem dX11_holder_28 : decode cX11_holder 28 = .ok (.iconst (-1), 1) := by decide +kernel
theorem dX11_holder_29 : decode cX11_holder 29 = .ok (.ireturn, 1) := by decide +kernel
theorem dX11_isBasket_0 : decode cX11_isBasket 0 = .ok (.aload_n 0, 1) := by decide +kernel
theorem dX11_isBasket_1 : decode cX11_isBasket 1 = .ok (.iload_n 1, 1) := by decide +kernel
theorem dX11_isBasket_2 : decode cX11_isBasket 2 = .ok (.invokevirtual 81, 3) := by decide +kernel
theorem dX11_isBasket_5 : decode cX11_isBasket 5 = .ok (.ifCond .ge 15, 3) := by decide +kernel
theorem dX11_isBasket_8 : decode cX11_isBasket 8 = .ok (.aload_n 0, 1) := by decide +kernel
theorem dX11_isBasket_9 : decode cX11_isBasket 9 = .ok (.iload_n 1, 1) := by decide +kernel
theorem dX11_isBasket_10 : decode cX11_isBasket 10 = .ok (.invokevirtual 85, 3) := by decide +kernel
theorem dX11_isBasket_13 : decode cX11_isBasket 13 = .ok (.ifCond .ge 7, 3) := by decide +kernel
theorem dX11_isBasket_16 : decode cX11_isBasket 16 = .ok (.iconst 1, 1) := by decide +kernel
theorem dX11_isBasket_17 : decode cX11_isBasket 17 = .ok (.goto 4, 3) := by decide +kernel
theorem dX11_isBasket_20 : decode cX11_isBasket 20 = .ok (.iconst 0, 1) := by decide +kernel
theorem dX11_isBasket_21 : decode cX11_isBasket 21 = .ok (.ireturn, 1) := by decide +kernel
theorem dX11_on_0 : decode cX11_on 0 = .ok (.iconst 0, 1) := by decide +kernel
theorem dX11_on_1 : decode cX11_on 1 = .ok (.istore_n 2, 1) := by decide +kernel
theorem dX11_on_2 : decode cX11_on 2 = .ok (.iconst 0, 1) := by decide +kernel
theorem dX11_on_3 : decode cX11_on 3 = .ok (.istore_n 3, 1) := by decide +kernel
theorem dX11_on_4 : decode cX11_on 4 = .ok (.iload_n 3, 1) := by decide +kernel
theorem dX11_on_5 : decode cX11_on 5 = .ok (.aload_n 0, 1) := by decide +kernel
theorem dX11_on_6 : decode cX11_on 6 = .ok (.getfield 78, 3) := by decide +kernel
theorem dX11_on_9 : decode cX11_on 9 = .ok (.if_icmp .ge 27, 3) := by decide +kernel
theorem dX11_on_12 : decode cX11_on 12 = .ok (.iload_n 2, 1) := by decide +kernel
theorem dX11_on_13 : decode cX11_on 13 = .ok (.aload_n 0, 1) := by decide +kernel
theorem dX11_on_14 : decode cX11_on 14 = .ok (.getfield 32, 3) := by decide +kernel
theorem dX11_on_17 : decode cX11_on 17 = .ok (.iload_n 3, 1) := by decide +kernel
theorem dX11_on_18 : decode cX11_on 18 = .ok (.iaload, 1) := by decide +kernel
theorem dX11_on_19 : decode cX11_on 19 = .ok (.iload_n 1, 1) := by decide +kernel
theorem dX11_on_20 : decode cX11_on 20 = .ok (.if_icmp .ne 7, 3) := by decide +kernel
theorem dX11_on_23 : decode cX11_on 23 = .ok (.iconst 1, 1) := by decide +kernel
theorem dX11_on_24 : decode cX11_on 24 = .ok (.goto 4, 3) := by decide +kernel
theorem dX11_on_27 : decode cX11_on 27 = .ok (.iconst 0, 1) := by decide +kernel
theorem dX11_on_28 : decode cX11_on 28 = .ok (.iadd, 1) := by decide +kernel
theorem dX11_on_29 : decode cX11_on 29 = .ok (.istore_n 2, 1) := by decide +kernel
theorem dX11_on_30 : decode cX11_on 30 = .ok (.iinc 3 1, 3) := by decide +kernel
theorem dX11_on_33 : decode cX11_on 33 = .ok (.goto (-29), 3) := by decide +kernel
theorem dX11_on_36 : decode cX11_on 36 = .ok (.iload_n 2, 1) := by decide +kernel
theorem dX11_on_37 : decode cX11_on 37 = .ok (.ireturn, 1) := by decide +kernel
theorem dX11_inside_0 : decode cX11_inside 0 = .ok (.aload_n 0, 1) := by decide +kernel
theorem dX11_inside_1 : decode cX11_inside 1 = .ok (.getfield 78, 3) := by decide +kernel
theorem dX11_inside_4 : decode cX11_inside 4 = .ok (.aload_n 0, 1) := by decide +kernel
theorem dX11_inside_5 : decode cX11_inside 5 = .ok (.iconst (-1), 1) := by decide +kernel
theorem dX11_inside_6 : decode cX11_inside 6 = .ok (.invokevirtual 88, 3) := by decide +kernel
theorem dX11_inside_9 : decode cX11_inside 9 = .ok (.isub, 1) := by decide +kernel
theorem dX11_inside_10 : decode cX11_inside 10 = .ok (.ireturn, 1) := by decide +kernel
theorem dX11_driest_0 : decode cX11_driest 0 = .ok (.iconst (-1), 1) := by decide +kernel
theorem dX11_driest_1 : decode cX11_driest 1 = .ok (.istore_n 1, 1) := by decide +kernel
theorem dX11_driest_2 : decode cX11_driest 2 = .ok (.aload_n 0, 1) := by decide +kernel
theorem dX11_driest_3 : decode cX11_driest 3 = .ok (.getfield 51, 3) := by decide +kernel
theorem dX11_driest_6 : decode cX11_driest 6 = .ok (.iconst 1, 1) := by decide +kernel
theorem dX11_driest_7 : decode cX11_driest 7 = .ok (.isub, 1) := by decide +kernel
theorem dX11_driest_8 : decode cX11_driest 8 = .ok (.istore_n 2, 1) := by decide +kernel
theorem dX11_driest_9 : decode cX11_driest 9 = .ok (.iload_n 2, 1) := by decide +kernel
theorem dX11_driest_10 : decode cX11_driest 10 = .ok (.ifCond .lt 64, 3) := by decide +kernel
theorem dX11_driest_13 : decode cX11_driest 13 = .ok (.aload_n 0, 1) := by decide +kernel
theorem dX11_driest_14 : decode cX11_driest 14 = .ok (.getfield 17, 3) := by decide +kernel
theorem dX11_driest_17 : decode cX11_driest 17 = .ok (.iload_n 2, 1) := by decide +kernel
theorem dX11_driest_18 : decode cX11_driest 18 = .ok (.iaload, 1) := by decide +kernel
theorem dX11_driest_19 : decode cX11_driest 19 = .ok (.ifCond .lt 49, 3) := by decide +kernel
theorem dX11_driest_22 : decode cX11_driest 22 = .ok (.aload_n 0, 1) := by decide +kernel
theorem dX11_driest_23 : decode cX11_driest 23 = .ok (.getfield 23, 3) := by decide +kernel
theorem dX11_driest_26 : decode cX11_driest 26 = .ok (.aload_n 0, 1) := by decide +kernel
theorem dX11_driest_27 : decode cX11_driest 27 = .ok (.getfield 17, 3) := by decide +kernel
theorem dX11_driest_30 : decode cX11_driest 30 = .ok (.iload_n 2, 1) := by decide +kernel
theorem dX11_driest_31 : decode cX11_driest 31 = .ok (.iaload, 1) := by decide +kernel
theorem dX11_driest_32 : decode cX11_driest 32 = .ok (.iaload, 1) := by decide +kernel
theorem dX11_driest_33 : decode cX11_driest 33 = .ok (.iconst 3, 1) := by decide +kernel
theorem dX11_driest_34 : decode cX11_driest 34 = .ok (.if_icmp .ge 34, 3) := by decide +kernel
theorem dX11_driest_37 : decode cX11_driest 37 = .ok (.iload_n 1, 1) := by decide +kernel
theorem dX11_driest_38 : decode cX11_driest 38 = .ok (.ifCond .lt 23, 3) := by decide +kernel
theorem dX11_driest_41 : decode cX11_driest 41 = .ok (.aload_n 0, 1) := by decide +kernel
theorem dX11_driest_42 : decode cX11_driest 42 = .ok (.getfield 23, 3) := by decide +kernel
theorem dX11_driest_45 : decode cX11_driest 45 = .ok (.aload_n 0, 1) := by decide +kernel
theorem dX11_driest_46 : decode cX11_driest 46 = .ok (.getfield 17, 3) := by decide +kernel
theorem dX11_driest_49 : decode cX11_driest 49 = .ok (.iload_n 2, 1) := by decide +kernel
theorem dX11_driest_50 : decode cX11_driest 50 = .ok (.iaload, 1) := by decide +kernel
theorem dX11_driest_51 : decode cX11_driest 51 = .ok (.iaload, 1) := by decide +kernel
theorem dX11_driest_52 : decode cX11_driest 52 = .ok (.aload_n 0, 1) := by decide +kernel
theorem dX11_driest_53 : decode cX11_driest 53 = .ok (.getfield 23, 3) := by decide +kernel
theorem dX11_driest_56 : decode cX11_driest 56 = .ok (.iload_n 1, 1) := by decide +kernel
theorem dX11_driest_57 : decode cX11_driest 57 = .ok (.iaload, 1) := by decide +kernel
theorem dX11_driest_58 : decode cX11_driest 58 = .ok (.if_icmp .gt 10, 3) := by decide +kernel
theorem dX11_driest_61 : decode cX11_driest 61 = .ok (.aload_n 0, 1) := by decide +kernel
theorem dX11_driest_62 : decode cX11_driest 62 = .ok (.getfield 17, 3) := by decide +kernel
theorem dX11_driest_65 : decode cX11_driest 65 = .ok (.iload_n 2, 1) := by decide +kernel
theorem dX11_driest_66 : decode cX11_driest 66 = .ok (.iaload, 1) := by decide +kernel
theorem dX11_driest_67 : decode cX11_driest 67 = .ok (.istore_n 1, 1) := by decide +kernel
theorem dX11_driest_68 : decode cX11_driest 68 = .ok (.iinc 2 (-1), 3) := by decide +kernel
theorem dX11_driest_71 : decode cX11_driest 71 = .ok (.goto (-62), 3) := by decide +kernel
theorem dX11_driest_74 : decode cX11_driest 74 = .ok (.iload_n 1, 1) := by decide +kernel
theorem dX11_driest_75 : decode cX11_driest 75 = .ok (.ireturn, 1) := by decide +kernel
theorem dX11_isSilent_0 : decode cX11_isSilent 0 = .ok (.aload_n 0, 1) := by decide +kernel
theorem dX11_isSilent_1 : decode cX11_isSilent 1 = .ok (.getfield 7, 3) := by decide +kernel
theorem dX11_isSilent_4 : decode cX11_isSilent 4 = .ok (.ifCond .lt 23, 3) := by decide +kernel
theorem dX11_isSilent_7 : decode cX11_isSilent 7 = .ok (.aload_n 0, 1) := by decide +kernel
theorem dX11_isSilent_8 : decode cX11_isSilent 8 = .ok (.getfield 72, 3) := by decide +kernel
theorem dX11_isSilent_11 : decode cX11_isSilent 11 = .ok (.aload_n 0, 1) := by decide +kernel
theorem dX11_isSilent_12 : decode cX11_isSilent 12 = .ok (.getfield 7, 3) := by decide +kernel
theorem dX11_isSilent_15 : decode cX11_isSilent 15 = .ok (.isub, 1) := by decide +kernel
theorem dX11_isSilent_16 : decode cX11_isSilent 16 = .ok (.aload_n 0, 1) := by decide +kernel
theorem dX11_isSilent_17 : decode cX11_isSilent 17 = .ok (.getfield 69, 3) := by decide +kernel
theorem dX11_isSilent_20 : decode cX11_isSilent 20 = .ok (.if_icmp .ge 7, 3) := by decide +kernel
theorem dX11_isSilent_23 : decode cX11_isSilent 23 = .ok (.iconst 1, 1) := by decide +kernel
theorem dX11_isSilent_24 : decode cX11_isSilent 24 = .ok (.goto 4, 3) := by decide +kernel
theorem dX11_isSilent_27 : decode cX11_isSilent 27 = .ok (.iconst 0, 1) := by decide +kernel
theorem dX11_isSilent_28 : decode cX11_isSilent 28 = .ok (.ireturn, 1) := by decide +kernel
theorem dX11_bears_0 : decode cX11_bears 0 = .ok (.bipush 60, 2) := by decide +kernel
theorem dX11_bears_2 : decode cX11_bears 2 = .ok (.aload_n 0, 1) := by decide +kernel
theorem dX11_bears_3 : decode cX11_bears 3 = .ok (.getfield 29, 3) := by decide +kernel
theorem dX11_bears_6 : decode cX11_bears 6 = .ok (.iload_n 1, 1) := by decide +kernel
theorem dX11_bears_7 : decode cX11_bears 7 = .ok (.iaload, 1) := by decide +kernel
theorem dX11_bears_8 : decode cX11_bears 8 = .ok (.iconst 4, 1) := by decide +kernel
theorem dX11_bears_9 : decode cX11_bears 9 = .ok (.idiv, 1) := by decide +kernel
theorem dX11_bears_10 : decode cX11_bears 10 = .ok (.iadd, 1) := by decide +kernel
theorem dX11_bears_11 : decode cX11_bears 11 = .ok (.ireturn, 1) := by decide +kernel
theorem dX11_no_0 : decode cX11_no 0 = .ok (.iload_n 2, 1) := by decide +kernel
theorem dX11_no_1 : decode cX11_no 1 = .ok (.ifCond .ne 65, 3) := by decide +kernel
theorem dX11_no_4 : decode cX11_no 4 = .ok (.aload_n 0, 1) := by decide +kernel
theorem dX11_no_5 : decode cX11_no 5 = .ok (.getfield 32, 3) := by decide +kernel
theorem dX11_no_8 : decode cX11_no 8 = .ok (.iload_n 1, 1) := by decide +kernel
theorem dX11_no_9 : decode cX11_no 9 = .ok (.iaload, 1) := by decide +kernel
theorem dX11_no_10 : decode cX11_no 10 = .ok (.ifCond .lt 7, 3) := by decide +kernel
theorem dX11_no_13 : decode cX11_no 13 = .ok (.iconst 1, 1) := by decide +kernel
theorem dX11_no_14 : decode cX11_no 14 = .ok (.goto 51, 3) := by decide +kernel
theorem dX11_no_17 : decode cX11_no 17 = .ok (.aload_n 0, 1) := by decide +kernel
theorem dX11_no_18 : decode cX11_no 18 = .ok (.getfield 44, 3) := by decide +kernel
theorem dX11_no_21 : decode cX11_no 21 = .ok (.iload_n 1, 1) := by decide +kernel
theorem dX11_no_22 : decode cX11_no 22 = .ok (.iaload, 1) := by decide +kernel
theorem dX11_no_23 : decode cX11_no 23 = .ok (.aload_n 0, 1) := by decide +kernel
theorem dX11_no_24 : decode cX11_no 24 = .ok (.getfield 72, 3) := by decide +kernel
theorem dX11_no_27 : decode cX11_no 27 = .ok (.sipush 600, 3) := by decide +kernel
theorem dX11_no_30 : decode cX11_no 30 = .ok (.idiv, 1) := by decide +kernel
theorem dX11_no_31 : decode cX11_no 31 = .ok (.if_icmp .ne 7, 3) := by decide +kernel
theorem dX11_no_34 : decode cX11_no 34 = .ok (.iconst 2, 1) := by decide +kernel
theorem dX11_no_35 : decode cX11_no 35 = .ok (.goto 30, 3) := by decide +kernel
theorem dX11_no_38 : decode cX11_no 38 = .ok (.aload_n 0, 1) := by decide +kernel
theorem dX11_no_39 : decode cX11_no 39 = .ok (.invokevirtual 91, 3) := by decide +kernel
theorem dX11_no_42 : decode cX11_no 42 = .ok (.aload_n 0, 1) := by decide +kernel
theorem dX11_no_43 : decode cX11_no 43 = .ok (.getfield 48, 3) := by decide +kernel
theorem dX11_no_46 : decode cX11_no 46 = .ok (.if_icmp .ne 7, 3) := by decide +kernel
theorem dX11_no_49 : decode cX11_no 49 = .ok (.iconst 3, 1) := by decide +kernel
theorem dX11_no_50 : decode cX11_no 50 = .ok (.goto 15, 3) := by decide +kernel
theorem dX11_no_53 : decode cX11_no 53 = .ok (.aload_n 0, 1) := by decide +kernel
theorem dX11_no_54 : decode cX11_no 54 = .ok (.invokevirtual 95, 3) := by decide +kernel
theorem dX11_no_57 : decode cX11_no 57 = .ok (.ifCond .ge 7, 3) := by decide +kernel
theorem dX11_no_60 : decode cX11_no 60 = .ok (.iconst 4, 1) := by decide +kernel
theorem dX11_no_61 : decode cX11_no 61 = .ok (.goto 4, 3) := by decide +kernel
theorem dX11_no_64 : decode cX11_no 64 = .ok (.iconst 0, 1) := by decide +kernel
theorem dX11_no_65 : decode cX11_no 65 = .ok (.ireturn, 1) := by decide +kernel
theorem dX11_no_66 : decode cX11_no 66 = .ok (.aload_n 0, 1) := by decide +kernel
theorem dX11_no_67 : decode cX11_no 67 = .ok (.getfield 32, 3) := by decide +kernel
theorem dX11_no_70 : decode cX11_no 70 = .ok (.iload_n 1, 1) := by decide +kernel
theorem dX11_no_71 : decode cX11_no 71 = .ok (.iaload, 1) := by decide +kernel
theorem dX11_no_72 : decode cX11_no 72 = .ok (.ifCond .ge 5, 3) := by decide +kernel
theorem dX11_no_75 : decode cX11_no 75 = .ok (.iconst 5, 1) := by decide +kernel
theorem dX11_no_76 : decode cX11_no 76 = .ok (.ireturn, 1) := by decide +kernel
theorem dX11_no_77 : decode cX11_no 77 = .ok (.iload_n 2, 1) := by decide +kernel
theorem dX11_no_78 : decode cX11_no 78 = .ok (.bipush 9, 2) := by decide +kernel
theorem dX11_no_80 : decode cX11_no 80 = .ok (.if_icmp .le 82, 3) := by decide +kernel
theorem dX11_no_83 : decode cX11_no 83 = .ok (.iload_n 2, 1) := by decide +kernel
theorem dX11_no_84 : decode cX11_no 84 = .ok (.bipush 20, 2) := by decide +kernel
theorem dX11_no_86 : decode cX11_no 86 = .ok (.if_icmp .ge 76, 3) := by decide +kernel
theorem dX11_no_89 : decode cX11_no 89 = .ok (.iload_n 2, 1) := by decide +kernel
theorem dX11_no_90 : decode cX11_no 90 = .ok (.bipush 10, 2) := by decide +kernel
theorem dX11_no_92 : decode cX11_no 92 = .ok (.isub, 1) := by decide +kernel
theorem dX11_no_93 : decode cX11_no 93 = .ok (.istore_n 3, 1) := by decide +kernel
theorem dX11_no_94 : decode cX11_no 94 = .ok (.aload_n 0, 1) := by decide +kernel
theorem dX11_no_95 : decode cX11_no 95 = .ok (.getfield 35, 3) := by decide +kernel
theorem dX11_no_98 : decode cX11_no 98 = .ok (.iload_n 1, 1) := by decide +kernel
theorem dX11_no_99 : decode cX11_no 99 = .ok (.iaload, 1) := by decide +kernel
theorem dX11_no_100 : decode cX11_no 100 = .ok (.ifCond .ge 8, 3) := by decide +kernel
theorem dX11_no_103 : decode cX11_no 103 = .ok (.bipush 6, 2) := by decide +kernel
theorem dX11_no_105 : decode cX11_no 105 = .ok (.goto 56, 3) := by decide +kernel
theorem dX11_no_108 : decode cX11_no 108 = .ok (.aload_n 0, 1) := by decide +kernel
theorem dX11_no_109 : decode cX11_no 109 = .ok (.getfield 29, 3) := by decide +kernel
theorem dX11_no_112 : decode cX11_no 112 = .ok (.iload_n 1, 1) := by decide +kernel
theorem dX11_no_113 : decode cX11_no 113 = .ok (.iaload, 1) := by decide +kernel
theorem dX11_no_114 : decode cX11_no 114 = .ok (.iconst 5, 1) := by decide +kernel
theorem dX11_no_115 : decode cX11_no 115 = .ok (.iload_n 3, 1) := by decide +kernel
theorem dX11_no_116 : decode cX11_no 116 = .ok (.imul, 1) := by decide +kernel
theorem dX11_no_117 : decode cX11_no 117 = .ok (.iconst 5, 1) := by decide +kernel
theorem dX11_no_118 : decode cX11_no 118 = .ok (.isub, 1) := by decide +kernel
theorem dX11_no_119 : decode cX11_no 119 = .ok (.if_icmp .ge 8, 3) := by decide +kernel
theorem dX11_no_122 : decode cX11_no 122 = .ok (.bipush 7, 2) := by decide +kernel
theorem dX11_no_124 : decode cX11_no 124 = .ok (.goto 37, 3) := by decide +kernel
theorem dX11_no_127 : decode cX11_no 127 = .ok (.aload_n 0, 1) := by decide +kernel
theorem dX11_no_128 : decode cX11_no 128 = .ok (.iload_n 3, 1) := by decide +kernel
theorem dX11_no_129 : decode cX11_no 129 = .ok (.invokevirtual 88, 3) := by decide +kernel
theorem dX11_no_132 : decode cX11_no 132 = .ok (.aload_n 0, 1) := by decide +kernel
theorem dX11_no_133 : decode cX11_no 133 = .ok (.getfield 32, 3) := by decide +kernel
theorem dX11_no_136 : decode cX11_no 136 = .ok (.iload_n 1, 1) := by decide +kernel
theorem dX11_no_137 : decode cX11_no 137 = .ok (.iaload, 1) := by decide +kernel
theorem dX11_no_138 : decode cX11_no 138 = .ok (.iload_n 3, 1) := by decide +kernel
theorem dX11_no_139 : decode cX11_no 139 = .ok (.if_icmp .ne 7, 3) := by decide +kernel
theorem dX11_no_142 : decode cX11_no 142 = .ok (.iconst 1, 1) := by decide +kernel
theorem dX11_no_143 : decode cX11_no 143 = .ok (.goto 4, 3) := by decide +kernel
theorem dX11_no_146 : decode cX11_no 146 = .ok (.iconst 0, 1) := by decide +kernel
theorem dX11_no_147 : decode cX11_no 147 = .ok (.isub, 1) := by decide +kernel
theorem dX11_no_148 : decode cX11_no 148 = .ok (.aload_n 0, 1) := by decide +kernel
theorem dX11_no_149 : decode cX11_no 149 = .ok (.getfield 63, 3) := by decide +kernel
theorem dX11_no_152 : decode cX11_no 152 = .ok (.if_icmp .lt 8, 3) := by decide +kernel
theorem dX11_no_155 : decode cX11_no 155 = .ok (.bipush 8, 2) := by decide +kernel
theorem dX11_no_157 : decode cX11_no 157 = .ok (.goto 4, 3) := by decide +kernel
theorem dX11_no_160 : decode cX11_no 160 = .ok (.iconst 0, 1) := by decide +kernel
theorem dX11_no_161 : decode cX11_no 161 = .ok (.ireturn, 1) := by decide +kernel
theorem dX11_no_162 : decode cX11_no 162 = .ok (.aload_n 0, 1) := by decide +kernel
theorem dX11_no_163 : decode cX11_no 163 = .ok (.getfield 32, 3) := by decide +kernel
theorem dX11_no_166 : decode cX11_no 166 = .ok (.iload_n 1, 1) := by decide +kernel
theorem dX11_no_167 : decode cX11_no 167 = .ok (.iaload, 1) := by decide +kernel
theorem dX11_no_168 : decode cX11_no 168 = .ok (.ifCond .le 6, 3) := by decide +kernel
theorem dX11_no_171 : decode cX11_no 171 = .ok (.bipush 9, 2) := by decide +kernel
theorem dX11_no_173 : decode cX11_no 173 = .ok (.ireturn, 1) := by decide +kernel
theorem dX11_no_174 : decode cX11_no 174 = .ok (.iload_n 2, 1) := by decide +kernel
theorem dX11_no_175 : decode cX11_no 175 = .ok (.iconst 1, 1) := by decide +kernel
theorem dX11_no_176 : decode cX11_no 176 = .ok (.if_icmp .ne 5, 3) := by decide +kernel
theorem dX11_no_179 : decode cX11_no 179 = .ok (.iconst 0, 1) := by decide +kernel
theorem dX11_no_180 : decode cX11_no 180 = .ok (.ireturn, 1) := by decide +kernel
theorem dX11_no_181 : decode cX11_no 181 = .ok (.iload_n 2, 1) := by decide +kernel
theorem dX11_no_182 : decode cX11_no 182 = .ok (.bipush 40, 2) := by decide +kernel
theorem dX11_no_184 : decode cX11_no 184 = .ok (.if_icmp .ge 36, 3) := by decide +kernel
theorem dX11_no_187 : decode cX11_no 187 = .ok (.aload_n 0, 1) := by decide +kernel
theorem dX11_no_188 : decode cX11_no 188 = .ok (.getfield 35, 3) := by decide +kernel
theorem dX11_no_191 : decode cX11_no 191 = .ok (.iload_n 1, 1) := by decide +kernel
theorem dX11_no_192 : decode cX11_no 192 = .ok (.iaload, 1) := by decide +kernel
theorem dX11_no_193 : decode cX11_no 193 = .ok (.ifCond .ge 8, 3) := by decide +kernel
theorem dX11_no_196 : decode cX11_no 196 = .ok (.bipush 6, 2) := by decide +kernel
theorem dX11_no_198 : decode cX11_no 198 = .ok (.goto 21, 3) := by decide +kernel
theorem dX11_no_201 : decode cX11_no 201 = .ok (.aload_n 0, 1) := by decide +kernel
theorem dX11_no_202 : decode cX11_no 202 = .ok (.getfield 17, 3) := by decide +kernel
theorem dX11_no_205 : decode cX11_no 205 = .ok (.iload_n 2, 1) := by decide +kernel
theorem dX11_no_206 : decode cX11_no 206 = .ok (.bipush 20, 2) := by decide +kernel
theorem dX11_no_208 : decode cX11_no 208 = .ok (.isub, 1) := by decide +kernel
theorem dX11_no_209 : decode cX11_no 209 = .ok (.iaload, 1) := by decide +kernel
theorem dX11_no_210 : decode cX11_no 210 = .ok (.ifCond .lt 8, 3) := by decide +kernel
theorem dX11_no_213 : decode cX11_no 213 = .ok (.bipush 10, 2) := by decide +kernel
theorem dX11_no_215 : decode cX11_no 215 = .ok (.goto 4, 3) := by decide +kernel
theorem dX11_no_218 : decode cX11_no 218 = .ok (.iconst 0, 1) := by decide +kernel
theorem dX11_no_219 : decode cX11_no 219 = .ok (.ireturn, 1) := by decide +kernel
theorem dX11_no_220 : decode cX11_no 220 = .ok (.aload_n 0, 1) := by decide +kernel
theorem dX11_no_221 : decode cX11_no 221 = .ok (.getfield 35, 3) := by decide +kernel
theorem dX11_no_224 : decode cX11_no 224 = .ok (.iload_n 1, 1) := by decide +kernel
theorem dX11_no_225 : decode cX11_no 225 = .ok (.iaload, 1) := by decide +kernel
theorem dX11_no_226 : decode cX11_no 226 = .ok (.ifCond .lt 8, 3) := by decide +kernel
theorem dX11_no_229 : decode cX11_no 229 = .ok (.bipush 11, 2) := by decide +kernel
theorem dX11_no_231 : decode cX11_no 231 = .ok (.goto 21, 3) := by decide +kernel
theorem dX11_no_234 : decode cX11_no 234 = .ok (.aload_n 0, 1) := by decide +kernel
theorem dX11_no_235 : decode cX11_no 235 = .ok (.getfield 17, 3) := by decide +kernel
theorem dX11_no_238 : decode cX11_no 238 = .ok (.iload_n 2, 1) := by decide +kernel
theorem dX11_no_239 : decode cX11_no 239 = .ok (.bipush 40, 2) := by decide +kernel
theorem dX11_no_241 : decode cX11_no 241 = .ok (.isub, 1) := by decide +kernel
theorem dX11_no_242 : decode cX11_no 242 = .ok (.iaload, 1) := by decide +kernel
theorem dX11_no_243 : decode cX11_no 243 = .ok (.ifCond .ge 8, 3) := by decide +kernel
theorem dX11_no_246 : decode cX11_no 246 = .ok (.bipush 12, 2) := by decide +kernel
theorem dX11_no_248 : decode cX11_no 248 = .ok (.goto 4, 3) := by decide +kernel
theorem dX11_no_251 : decode cX11_no 251 = .ok (.iconst 0, 1) := by decide +kernel
theorem dX11_no_252 : decode cX11_no 252 = .ok (.ireturn, 1) := by decide +kernel
theorem dX11_cause_0 : decode cX11_cause 0 = .ok (.aload_n 0, 1) := by decide +kernel
theorem dX11_cause_1 : decode cX11_cause 1 = .ok (.iload_n 1, 1) := by decide +kernel
theorem dX11_cause_2 : decode cX11_cause 2 = .ok (.iload_n 2, 1) := by decide +kernel
theorem dX11_cause_3 : decode cX11_cause 3 = .ok (.invokevirtual 98, 3) := by decide +kernel
theorem dX11_cause_6 : decode cX11_cause 6 = .ok (.istore_n 3, 1) := by decide +kernel
theorem dX11_cause_7 : decode cX11_cause 7 = .ok (.iconst (-1), 1) := by decide +kernel
theorem dX11_cause_8 : decode cX11_cause 8 = .ok (.istore 4, 2) := by decide +kernel
theorem dX11_cause_10 : decode cX11_cause 10 = .ok (.aload_n 0, 1) := by decide +kernel
theorem dX11_cause_11 : decode cX11_cause 11 = .ok (.getfield 78, 3) := by decide +kernel
theorem dX11_cause_14 : decode cX11_cause 14 = .ok (.iconst 1, 1) := by decide +kernel
theorem dX11_cause_15 : decode cX11_cause 15 = .ok (.isub, 1) := by decide +kernel
theorem dX11_cause_16 : decode cX11_cause 16 = .ok (.istore 5, 2) := by decide +kernel
theorem dX11_cause_18 : decode cX11_cause 18 = .ok (.iload 5, 2) := by decide +kernel
theorem dX11_cause_20 : decode cX11_cause 20 = .ok (.ifCond .lt 44, 3) := by decide +kernel
theorem dX11_cause_23 : decode cX11_cause 23 = .ok (.iload_n 3, 1) := by decide +kernel
theorem dX11_cause_24 : decode cX11_cause 24 = .ok (.bipush 8, 2) := by decide +kernel
theorem dX11_cause_26 : decode cX11_cause 26 = .ok (.if_icmp .ne 38, 3) := by decide +kernel
theorem dX11_cause_29 : decode cX11_cause 29 = .ok (.iload 5, 2) := by decide +kernel
theorem dX11_cause_31 : decode cX11_cause 31 = .ok (.iload_n 1, 1) := by decide +kernel
theorem dX11_cause_32 : decode cX11_cause 32 = .ok (.if_icmp .eq 22, 3) := by decide +kernel
theorem dX11_cause_35 : decode cX11_cause 35 = .ok (.aload_n 0, 1) := by decide +kernel
theorem dX11_cause_36 : decode cX11_cause 36 = .ok (.getfield 32, 3) := by decide +kernel
theorem dX11_cause_39 : decode cX11_cause 39 = .ok (.iload 5, 2) := by decide +kernel
theorem dX11_cause_41 : decode cX11_cause 41 = .ok (.iaload, 1) := by decide +kernel
theorem dX11_cause_42 : decode cX11_cause 42 = .ok (.iload_n 2, 1) := by decide +kernel
theorem dX11_cause_43 : decode cX11_cause 43 = .ok (.bipush 10, 2) := by decide +kernel
theorem dX11_cause_45 : decode cX11_cause 45 = .ok (.isub, 1) := by decide +kernel
theorem dX11_cause_46 : decode cX11_cause 46 = .ok (.if_icmp .ne 8, 3) := by decide +kernel
theorem dX11_cause_49 : decode cX11_cause 49 = .ok (.iload 5, 2) := by decide +kernel
theorem dX11_cause_51 : decode cX11_cause 51 = .ok (.goto 5, 3) := by decide +kernel
theorem dX11_cause_54 : decode cX11_cause 54 = .ok (.iload 4, 2) := by decide +kernel
theorem dX11_cause_56 : decode cX11_cause 56 = .ok (.istore 4, 2) := by decide +kernel
theorem dX11_cause_58 : decode cX11_cause 58 = .ok (.iinc 5 (-1), 3) := by decide +kernel
theorem dX11_cause_61 : decode cX11_cause 61 = .ok (.goto (-43), 3) := by decide +kernel
theorem dX11_cause_64 : decode cX11_cause 64 = .ok (.iload_n 3, 1) := by decide +kernel
theorem dX11_cause_65 : decode cX11_cause 65 = .ok (.iconst 2, 1) := by decide +kernel
theorem dX11_cause_66 : decode cX11_cause 66 = .ok (.if_icmp .ne 18, 3) := by decide +kernel
theorem dX11_cause_69 : decode cX11_cause 69 = .ok (.sipush 700, 3) := by decide +kernel
theorem dX11_cause_72 : decode cX11_cause 72 = .ok (.aload_n 0, 1) := by decide +kernel
theorem dX11_cause_73 : decode cX11_cause 73 = .ok (.getfield 72, 3) := by decide +kernel
theorem dX11_cause_76 : decode cX11_cause 76 = .ok (.sipush 600, 3) := by decide +kernel
theorem dX11_cause_79 : decode cX11_cause 79 = .ok (.irem, 1) := by decide +kernel
theorem dX11_cause_80 : decode cX11_cause 80 = .ok (.isub, 1) := by decide +kernel
theorem dX11_cause_81 : decode cX11_cause 81 = .ok (.goto 102, 3) := by decide +kernel
theorem dX11_cause_84 : decode cX11_cause 84 = .ok (.iload_n 3, 1) := by decide +kernel
theorem dX11_cause_85 : decode cX11_cause 85 = .ok (.iconst 3, 1) := by decide +kernel
theorem dX11_cause_86 : decode cX11_cause 86 = .ok (.if_icmp .ne 14, 3) := by decide +kernel
theorem dX11_cause_89 : decode cX11_cause 89 = .ok (.sipush 200, 3) := by decide +kernel
theorem dX11_cause_92 : decode cX11_cause 92 = .ok (.aload_n 0, 1) := by decide +kernel
theorem dX11_cause_93 : decode cX11_cause 93 = .ok (.getfield 48, 3) := by decide +kernel
theorem dX11_cause_96 : decode cX11_cause 96 = .ok (.iadd, 1) := by decide +kernel
theorem dX11_cause_97 : decode cX11_cause 97 = .ok (.goto 86, 3) := by decide +kernel
theorem dX11_cause_100 : decode cX11_cause 100 = .ok (.iload_n 3, 1) := by decide +kernel
theorem dX11_cause_101 : decode cX11_cause 101 = .ok (.bipush 7, 2) := by decide +kernel
theorem dX11_cause_103 : decode cX11_cause 103 = .ok (.if_icmp .ne 23, 3) := by decide +kernel
theorem dX11_cause_106 : decode cX11_cause 106 = .ok (.sipush 300, 3) := by decide +kernel
theorem dX11_cause_109 : decode cX11_cause 109 = .ok (.iconst 5, 1) := by decide +kernel
theorem dX11_cause_110 : decode cX11_cause 110 = .ok (.iload_n 2, 1) := by decide +kernel
theorem dX11_cause_111 : decode cX11_cause 111 = .ok (.bipush 11, 2) := by decide +kernel
theorem dX11_cause_113 : decode cX11_cause 113 = .ok (.isub, 1) := by decide +kernel
theorem dX11_cause_114 : decode cX11_cause 114 = .ok (.imul, 1) := by decide +kernel
theorem dX11_cause_115 : decode cX11_cause 115 = .ok (.iadd, 1) := by decide +kernel
theorem dX11_cause_116 : decode cX11_cause 116 = .ok (.aload_n 0, 1) := by decide +kernel
theorem dX11_cause_117 : decode cX11_cause 117 = .ok (.getfield 29, 3) := by decide +kernel
theorem dX11_cause_120 : decode cX11_cause 120 = .ok (.iload_n 1, 1) := by decide +kernel
theorem dX11_cause_121 : decode cX11_cause 121 = .ok (.iaload, 1) := by decide +kernel
theorem dX11_cause_122 : decode cX11_cause 122 = .ok (.isub, 1) := by decide +kernel
theorem dX11_cause_123 : decode cX11_cause 123 = .ok (.goto 60, 3) := by decide +kernel
theorem dX11_cause_126 : decode cX11_cause 126 = .ok (.iload_n 3, 1) := by decide +kernel
theorem dX11_cause_127 : decode cX11_cause 127 = .ok (.bipush 8, 2) := by decide +kernel
theorem dX11_cause_129 : decode cX11_cause 129 = .ok (.if_icmp .ne 12, 3) := by decide +kernel
theorem dX11_cause_132 : decode cX11_cause 132 = .ok (.sipush 400, 3) := by decide +kernel
theorem dX11_cause_135 : decode cX11_cause 135 = .ok (.iload 4, 2) := by decide +kernel
theorem dX11_cause_137 : decode cX11_cause 137 = .ok (.iadd, 1) := by decide +kernel
theorem dX11_cause_138 : decode cX11_cause 138 = .ok (.goto 45, 3) := by decide +kernel
theorem dX11_cause_141 : decode cX11_cause 141 = .ok (.iload_n 3, 1) := by decide +kernel
theorem dX11_cause_142 : decode cX11_cause 142 = .ok (.bipush 9, 2) := by decide +kernel
theorem dX11_cause_144 : decode cX11_cause 144 = .ok (.if_icmp .ne 16, 3) := by decide +kernel
theorem dX11_cause_147 : decode cX11_cause 147 = .ok (.sipush 500, 3) := by decide +kernel
theorem dX11_cause_150 : decode cX11_cause 150 = .ok (.aload_n 0, 1) := by decide +kernel
theorem dX11_cause_151 : decode cX11_cause 151 = .ok (.getfield 32, 3) := by decide +kernel
theorem dX11_cause_154 : decode cX11_cause 154 = .ok (.iload_n 1, 1) := by decide +kernel
theorem dX11_cause_155 : decode cX11_cause 155 = .ok (.iaload, 1) := by decide +kernel
theorem dX11_cause_156 : decode cX11_cause 156 = .ok (.iadd, 1) := by decide +kernel
theorem dX11_cause_157 : decode cX11_cause 157 = .ok (.goto 26, 3) := by decide +kernel
theorem dX11_cause_160 : decode cX11_cause 160 = .ok (.iload_n 3, 1) := by decide +kernel
theorem dX11_cause_161 : decode cX11_cause 161 = .ok (.bipush 10, 2) := by decide +kernel
theorem dX11_cause_163 : decode cX11_cause 163 = .ok (.if_icmp .ne 19, 3) := by decide +kernel
theorem dX11_cause_166 : decode cX11_cause 166 = .ok (.sipush 600, 3) := by decide +kernel
theorem dX11_cause_169 : decode cX11_cause 169 = .ok (.aload_n 0, 1) := by decide +kernel
theorem dX11_cause_170 : decode cX11_cause 170 = .ok (.getfield 17, 3) := by decide +kernel
theorem dX11_cause_173 : decode cX11_cause 173 = .ok (.iload_n 2, 1) := by decide +kernel
theorem dX11_cause_174 : decode cX11_cause 174 = .ok (.bipush 20, 2) := by decide +kernel
theorem dX11_cause_176 : decode cX11_cause 176 = .ok (.isub, 1) := by decide +kernel
theorem dX11_cause_177 : decode cX11_cause 177 = .ok (.iaload, 1) := by decide +kernel
theorem dX11_cause_178 : decode cX11_cause 178 = .ok (.iadd, 1) := by decide +kernel
theorem dX11_cause_179 : decode cX11_cause 179 = .ok (.goto 4, 3) := by decide +kernel
theorem dX11_cause_182 : decode cX11_cause 182 = .ok (.iconst 0, 1) := by decide +kernel
theorem dX11_cause_183 : decode cX11_cause 183 = .ok (.ireturn, 1) := by decide +kernel
theorem dX11_highest_0 : decode cX11_highest 0 = .ok (.aload_n 0, 1) := by decide +kernel
theorem dX11_highest_1 : decode cX11_highest 1 = .ok (.getfield 60, 3) := by decide +kernel
theorem dX11_highest_4 : decode cX11_highest 4 = .ok (.istore_n 2, 1) := by decide +kernel
theorem dX11_highest_5 : decode cX11_highest 5 = .ok (.iload_n 2, 1) := by decide +kernel
theorem dX11_highest_6 : decode cX11_highest 6 = .ok (.ifCond .le 23, 3) := by decide +kernel
theorem dX11_highest_9 : decode cX11_highest 9 = .ok (.aload_n 0, 1) := by decide +kernel
theorem dX11_highest_10 : decode cX11_highest 10 = .ok (.iload_n 1, 1) := by decide +kernel
theorem dX11_highest_11 : decode cX11_highest 11 = .ok (.bipush 10, 2) := by decide +kernel
theorem dX11_highest_13 : decode cX11_highest 13 = .ok (.iload_n 2, 1) := by decide +kernel
theorem dX11_highest_14 : decode cX11_highest 14 = .ok (.iadd, 1) := by decide +kernel
theorem dX11_highest_15 : decode cX11_highest 15 = .ok (.invokevirtual 98, 3) := by decide +kernel
theorem dX11_highest_18 : decode cX11_highest 18 = .ok (.ifCond .ne 5, 3) := by decide +kernel
theorem dX11_highest_21 : decode cX11_highest 21 = .ok (.iload_n 2, 1) := by decide +kernel
theorem dX11_highest_22 : decode cX11_highest 22 = .ok (.ireturn, 1) := by decide +kernel
theorem dX11_highest_23 : decode cX11_highest 23 = .ok (.iinc 2 (-1), 3) := by decide +kernel
theorem dX11_highest_26 : decode cX11_highest 26 = .ok (.goto (-21), 3) := by decide +kernel
theorem dX11_highest_29 : decode cX11_highest 29 = .ok (.iconst 0, 1) := by decide +kernel
theorem dX11_highest_30 : decode cX11_highest 30 = .ok (.ireturn, 1) := by decide +kernel
theorem dX11_nextHeat_0 : decode cX11_nextHeat 0 = .ok (.aload_n 0, 1) := by decide +kernel
theorem dX11_nextHeat_1 : decode cX11_nextHeat 1 = .ok (.getfield 75, 3) := by decide +kernel
theorem dX11_nextHeat_4 : decode cX11_nextHeat 4 = .ok (.iconst 3, 1) := by decide +kernel
theorem dX11_nextHeat_5 : decode cX11_nextHeat 5 = .ok (.isub, 1) := by decide +kernel
theorem dX11_nextHeat_6 : decode cX11_nextHeat 6 = .ok (.aload_n 0, 1) := by decide +kernel
theorem dX11_nextHeat_7 : decode cX11_nextHeat 7 = .ok (.getfield 75, 3) := by decide +kernel
theorem dX11_nextHeat_10 : decode cX11_nextHeat 10 = .ok (.bipush 20, 2) := by decide +kernel
theorem dX11_nextHeat_12 : decode cX11_nextHeat 12 = .ok (.idiv, 1) := by decide +kernel
theorem dX11_nextHeat_13 : decode cX11_nextHeat 13 = .ok (.isub, 1) := by decide +kernel
theorem dX11_nextHeat_14 : decode cX11_nextHeat 14 = .ok (.istore_n 1, 1) := by decide +kernel
theorem dX11_nextHeat_15 : decode cX11_nextHeat 15 = .ok (.iconst 0, 1) := by decide +kernel
theorem dX11_nextHeat_16 : decode cX11_nextHeat 16 = .ok (.istore_n 2, 1) := by decide +kernel
theorem dX11_nextHeat_17 : decode cX11_nextHeat 17 = .ok (.iload_n 2, 1) := by decide +kernel
theorem dX11_nextHeat_18 : decode cX11_nextHeat 18 = .ok (.aload_n 0, 1) := by decide +kernel
theorem dX11_nextHeat_19 : decode cX11_nextHeat 19 = .ok (.getfield 57, 3) := by decide +kernel
theorem dX11_nextHeat_22 : decode cX11_nextHeat 22 = .ok (.if_icmp .ge 18, 3) := by decide +kernel
theorem dX11_nextHeat_25 : decode cX11_nextHeat 25 = .ok (.iload_n 1, 1) := by decide +kernel
theorem dX11_nextHeat_26 : decode cX11_nextHeat 26 = .ok (.aload_n 0, 1) := by decide +kernel
theorem dX11_nextHeat_27 : decode cX11_nextHeat 27 = .ok (.getfield 13, 3) := by decide +kernel
theorem dX11_nextHeat_30 : decode cX11_nextHeat 30 = .ok (.iload_n 2, 1) := by decide +kernel
theorem dX11_nextHeat_31 : decode cX11_nextHeat 31 = .ok (.iaload, 1) := by decide +kernel
theorem dX11_nextHeat_32 : decode cX11_nextHeat 32 = .ok (.iadd, 1) := by decide +kernel
theorem dX11_nextHeat_33 : decode cX11_nextHeat 33 = .ok (.istore_n 1, 1) := by decide +kernel
theorem dX11_nextHeat_34 : decode cX11_nextHeat 34 = .ok (.iinc 2 1, 3) := by decide +kernel
theorem dX11_nextHeat_37 : decode cX11_nextHeat 37 = .ok (.goto (-20), 3) := by decide +kernel
theorem dX11_nextHeat_40 : decode cX11_nextHeat 40 = .ok (.iconst 0, 1) := by decide +kernel
theorem dX11_nextHeat_41 : decode cX11_nextHeat 41 = .ok (.bipush 100, 2) := by decide +kernel
theorem dX11_nextHeat_43 : decode cX11_nextHeat 43 = .ok (.iload_n 1, 1) := by decide +kernel
theorem dX11_nextHeat_44 : decode cX11_nextHeat 44 = .ok (.invokestatic 102, 3) := by decide +kernel
theorem dX11_nextHeat_47 : decode cX11_nextHeat 47 = .ok (.invokestatic 107, 3) := by decide +kernel
theorem dX11_nextHeat_50 : decode cX11_nextHeat 50 = .ok (.ireturn, 1) := by decide +kernel
theorem dX11_minute_0 : decode cX11_minute 0 = .ok (.aload_n 0, 1) := by decide +kernel
theorem dX11_minute_1 : decode cX11_minute 1 = .ok (.dup, 1) := by decide +kernel
theorem dX11_minute_2 : decode cX11_minute 2 = .ok (.getfield 72, 3) := by decide +kernel
theorem dX11_minute_5 : decode cX11_minute 5 = .ok (.iconst 1, 1) := by decide +kernel
theorem dX11_minute_6 : decode cX11_minute 6 = .ok (.iadd, 1) := by decide +kernel
theorem dX11_minute_7 : decode cX11_minute 7 = .ok (.putfield 72, 3) := by decide +kernel
theorem dX11_minute_10 : decode cX11_minute 10 = .ok (.aload_n 0, 1) := by decide +kernel
theorem dX11_minute_11 : decode cX11_minute 11 = .ok (.getfield 26, 3) := by decide +kernel
theorem dX11_minute_14 : decode cX11_minute 14 = .ok (.bipush 8, 2) := by decide +kernel
theorem dX11_minute_16 : decode cX11_minute 16 = .ok (.dup2, 1) := by decide +kernel
theorem dX11_minute_17 : decode cX11_minute 17 = .ok (.iaload, 1) := by decide +kernel
theorem dX11_minute_18 : decode cX11_minute 18 = .ok (.iconst 1, 1) := by decide +kernel
theorem dX11_minute_19 : decode cX11_minute 19 = .ok (.iadd, 1) := by decide +kernel
theorem dX11_minute_20 : decode cX11_minute 20 = .ok (.iastore, 1) := by decide +kernel
theorem dX11_minute_21 : decode cX11_minute 21 = .ok (.aload_n 0, 1) := by decide +kernel
theorem dX11_minute_22 : decode cX11_minute 22 = .ok (.getfield 72, 3) := by decide +kernel
theorem dX11_minute_25 : decode cX11_minute 25 = .ok (.aload_n 0, 1) := by decide +kernel
theorem dX11_minute_26 : decode cX11_minute 26 = .ok (.getfield 66, 3) := by decide +kernel
theorem dX11_minute_29 : decode cX11_minute 29 = .ok (.irem, 1) := by decide +kernel
theorem dX11_minute_30 : decode cX11_minute 30 = .ok (.ifCond .ne 22, 3) := by decide +kernel
theorem dX11_minute_33 : decode cX11_minute 33 = .ok (.aload_n 0, 1) := by decide +kernel
theorem dX11_minute_34 : decode cX11_minute 34 = .ok (.aload_n 0, 1) := by decide +kernel
theorem dX11_minute_35 : decode cX11_minute 35 = .ok (.getfield 72, 3) := by decide +kernel
theorem dX11_minute_38 : decode cX11_minute 38 = .ok (.putfield 7, 3) := by decide +kernel
theorem dX11_minute_41 : decode cX11_minute 41 = .ok (.aload_n 0, 1) := by decide +kernel
theorem dX11_minute_42 : decode cX11_minute 42 = .ok (.getfield 26, 3) := by decide +kernel
theorem dX11_minute_45 : decode cX11_minute 45 = .ok (.bipush 7, 2) := by decide +kernel
theorem dX11_minute_47 : decode cX11_minute 47 = .ok (.dup2, 1) := by decide +kernel
theorem dX11_minute_48 : decode cX11_minute 48 = .ok (.iaload, 1) := by decide +kernel
theorem dX11_minute_49 : decode cX11_minute 49 = .ok (.iconst 1, 1) := by decide +kernel
theorem dX11_minute_50 : decode cX11_minute 50 = .ok (.iadd, 1) := by decide +kernel
theorem dX11_minute_51 : decode cX11_minute 51 = .ok (.iastore, 1) := by decide +kernel
theorem dX11_minute_52 : decode cX11_minute 52 = .ok (.aload_n 0, 1) := by decide +kernel
theorem dX11_minute_53 : decode cX11_minute 53 = .ok (.aload_n 0, 1) := by decide +kernel
theorem dX11_minute_54 : decode cX11_minute 54 = .ok (.invokevirtual 110, 3) := by decide +kernel
theorem dX11_minute_57 : decode cX11_minute 57 = .ok (.putfield 75, 3) := by decide +kernel
theorem dX11_minute_60 : decode cX11_minute 60 = .ok (.iconst 0, 1) := by decide +kernel
theorem dX11_minute_61 : decode cX11_minute 61 = .ok (.istore_n 1, 1) := by decide +kernel
theorem dX11_minute_62 : decode cX11_minute 62 = .ok (.iload_n 1, 1) := by decide +kernel
theorem dX11_minute_63 : decode cX11_minute 63 = .ok (.aload_n 0, 1) := by decide +kernel
theorem dX11_minute_64 : decode cX11_minute 64 = .ok (.getfield 78, 3) := by decide +kernel
theorem dX11_minute_67 : decode cX11_minute 67 = .ok (.if_icmp .ge 73, 3) := by decide +kernel
theorem dX11_minute_70 : decode cX11_minute 70 = .ok (.aload_n 0, 1) := by decide +kernel
theorem dX11_minute_71 : decode cX11_minute 71 = .ok (.getfield 32, 3) := by decide +kernel
theorem dX11_minute_74 : decode cX11_minute 74 = .ok (.iload_n 1, 1) := by decide +kernel
theorem dX11_minute_75 : decode cX11_minute 75 = .ok (.iaload, 1) := by decide +kernel
theorem dX11_minute_76 : decode cX11_minute 76 = .ok (.iconst 1, 1) := by decide +kernel
theorem dX11_minute_77 : decode cX11_minute 77 = .ok (.if_icmp .lt 57, 3) := by decide +kernel
theorem dX11_minute_80 : decode cX11_minute 80 = .ok (.aload_n 0, 1) := by decide +kernel
theorem dX11_minute_81 : decode cX11_minute 81 = .ok (.getfield 35, 3) := by decide +kernel
theorem dX11_minute_84 : decode cX11_minute 84 = .ok (.iload_n 1, 1) := by decide +kernel
theorem dX11_minute_85 : decode cX11_minute 85 = .ok (.iaload, 1) := by decide +kernel
theorem dX11_minute_86 : decode cX11_minute 86 = .ok (.ifCond .lt 48, 3) := by decide +kernel
theorem dX11_minute_89 : decode cX11_minute 89 = .ok (.aload_n 0, 1) := by decide +kernel
theorem dX11_minute_90 : decode cX11_minute 90 = .ok (.getfield 23, 3) := by decide +kernel
theorem dX11_minute_93 : decode cX11_minute 93 = .ok (.aload_n 0, 1) := by decide +kernel
theorem dX11_minute_94 : decode cX11_minute 94 = .ok (.getfield 35, 3) := by decide +kernel
theorem dX11_minute_97 : decode cX11_minute 97 = .ok (.iload_n 1, 1) := by decide +kernel
theorem dX11_minute_98 : decode cX11_minute 98 = .ok (.iaload, 1) := by decide +kernel
theorem dX11_minute_99 : decode cX11_minute 99 = .ok (.iaload, 1) := by decide +kernel
theorem dX11_minute_100 : decode cX11_minute 100 = .ok (.bipush 9, 2) := by decide +kernel
theorem dX11_minute_102 : decode cX11_minute 102 = .ok (.if_icmp .ne 6, 3) := by decide +kernel
theorem dX11_minute_105 : decode cX11_minute 105 = .ok (.goto 29, 3) := by decide +kernel
theorem dX11_minute_108 : decode cX11_minute 108 = .ok (.aload_n 0, 1) := by decide +kernel
theorem dX11_minute_109 : decode cX11_minute 109 = .ok (.getfield 23, 3) := by decide +kernel
theorem dX11_minute_112 : decode cX11_minute 112 = .ok (.aload_n 0, 1) := by decide +kernel
theorem dX11_minute_113 : decode cX11_minute 113 = .ok (.getfield 35, 3) := by decide +kernel
theorem dX11_minute_116 : decode cX11_minute 116 = .ok (.iload_n 1, 1) := by decide +kernel
theorem dX11_minute_117 : decode cX11_minute 117 = .ok (.iaload, 1) := by decide +kernel
theorem dX11_minute_118 : decode cX11_minute 118 = .ok (.dup2, 1) := by decide +kernel
theorem dX11_minute_119 : decode cX11_minute 119 = .ok (.iaload, 1) := by decide +kernel
theorem dX11_minute_120 : decode cX11_minute 120 = .ok (.iconst 1, 1) := by decide +kernel
theorem dX11_minute_121 : decode cX11_minute 121 = .ok (.iadd, 1) := by decide +kernel
theorem dX11_minute_122 : decode cX11_minute 122 = .ok (.iastore, 1) := by decide +kernel
theorem dX11_minute_123 : decode cX11_minute 123 = .ok (.aload_n 0, 1) := by decide +kernel
theorem dX11_minute_124 : decode cX11_minute 124 = .ok (.getfield 26, 3) := by decide +kernel
theorem dX11_minute_127 : decode cX11_minute 127 = .ok (.bipush 6, 2) := by decide +kernel
theorem dX11_minute_129 : decode cX11_minute 129 = .ok (.dup2, 1) := by decide +kernel
theorem dX11_minute_130 : decode cX11_minute 130 = .ok (.iaload, 1) := by decide +kernel
theorem dX11_minute_131 : decode cX11_minute 131 = .ok (.iconst 1, 1) := by decide +kernel
theorem dX11_minute_132 : decode cX11_minute 132 = .ok (.iadd, 1) := by decide +kernel
theorem dX11_minute_133 : decode cX11_minute 133 = .ok (.iastore, 1) := by decide +kernel
theorem dX11_minute_134 : decode cX11_minute 134 = .ok (.iinc 1 1, 3) := by decide +kernel
theorem dX11_minute_137 : decode cX11_minute 137 = .ok (.goto (-75), 3) := by decide +kernel
theorem dX11_minute_140 : decode cX11_minute 140 = .ok (.iconst 0, 1) := by decide +kernel
theorem dX11_minute_141 : decode cX11_minute 141 = .ok (.istore_n 1, 1) := by decide +kernel
theorem dX11_minute_142 : decode cX11_minute 142 = .ok (.iload_n 1, 1) := by decide +kernel
theorem dX11_minute_143 : decode cX11_minute 143 = .ok (.aload_n 0, 1) := by decide +kernel
theorem dX11_minute_144 : decode cX11_minute 144 = .ok (.getfield 51, 3) := by decide +kernel
theorem dX11_minute_147 : decode cX11_minute 147 = .ok (.if_icmp .ge 56, 3) := by decide +kernel
theorem dX11_minute_150 : decode cX11_minute 150 = .ok (.aload_n 0, 1) := by decide +kernel
theorem dX11_minute_151 : decode cX11_minute 151 = .ok (.getfield 17, 3) := by decide +kernel
theorem dX11_minute_154 : decode cX11_minute 154 = .ok (.iload_n 1, 1) := by decide +kernel
theorem dX11_minute_155 : decode cX11_minute 155 = .ok (.iaload, 1) := by decide +kernel
theorem dX11_minute_156 : decode cX11_minute 156 = .ok (.ifCond .lt 41, 3) := by decide +kernel
theorem dX11_minute_159 : decode cX11_minute 159 = .ok (.aload_n 0, 1) := by decide +kernel
theorem dX11_minute_160 : decode cX11_minute 160 = .ok (.getfield 75, 3) := by decide +kernel
theorem dX11_minute_163 : decode cX11_minute 163 = .ok (.bipush 60, 2) := by decide +kernel
theorem dX11_minute_165 : decode cX11_minute 165 = .ok (.if_icmp .ge 32, 3) := by decide +kernel
theorem dX11_minute_168 : decode cX11_minute 168 = .ok (.aload_n 0, 1) := by decide +kernel
theorem dX11_minute_169 : decode cX11_minute 169 = .ok (.getfield 23, 3) := by decide +kernel
theorem dX11_minute_172 : decode cX11_minute 172 = .ok (.aload_n 0, 1) := by decide +kernel
theorem dX11_minute_173 : decode cX11_minute 173 = .ok (.getfield 17, 3) := by decide +kernel
theorem dX11_minute_176 : decode cX11_minute 176 = .ok (.iload_n 1, 1) := by decide +kernel
theorem dX11_minute_177 : decode cX11_minute 177 = .ok (.iaload, 1) := by decide +kernel
theorem dX11_minute_178 : decode cX11_minute 178 = .ok (.iaload, 1) := by decide +kernel
theorem dX11_minute_179 : decode cX11_minute 179 = .ok (.ifCond .le 18, 3) := by decide +kernel
theorem dX11_minute_182 : decode cX11_minute 182 = .ok (.aload_n 0, 1) := by decide +kernel
theorem dX11_minute_183 : decode cX11_minute 183 = .ok (.getfield 23, 3) := by decide +kernel
theorem dX11_minute_186 : decode cX11_minute 186 = .ok (.aload_n 0, 1) := by decide +kernel
theorem dX11_minute_187 : decode cX11_minute 187 = .ok (.getfield 17, 3) := by decide +kernel
theorem dX11_minute_190 : decode cX11_minute 190 = .ok (.iload_n 1, 1) := by decide +kernel
theorem dX11_minute_191 : decode cX11_minute 191 = .ok (.iaload, 1) := by decide +kernel
theorem dX11_minute_192 : decode cX11_minute 192 = .ok (.dup2, 1) := by decide +kernel
theorem dX11_minute_193 : decode cX11_minute 193 = .ok (.iaload, 1) := by decide +kernel
theorem dX11_minute_194 : decode cX11_minute 194 = .ok (.iconst 1, 1) := by decide +kernel
theorem dX11_minute_195 : decode cX11_minute 195 = .ok (.isub, 1) := by decide +kernel
theorem dX11_minute_196 : decode cX11_minute 196 = .ok (.iastore, 1) := by decide +kernel
theorem dX11_minute_197 : decode cX11_minute 197 = .ok (.iinc 1 1, 3) := by decide +kernel
theorem dX11_minute_200 : decode cX11_minute 200 = .ok (.goto (-58), 3) := by decide +kernel
theorem dX11_minute_203 : decode cX11_minute 203 = .ok (.iconst 0, 1) := by decide +kernel
theorem dX11_minute_204 : decode cX11_minute 204 = .ok (.istore_n 1, 1) := by decide +kernel
theorem dX11_minute_205 : decode cX11_minute 205 = .ok (.iconst 0, 1) := by decide +kernel
theorem dX11_minute_206 : decode cX11_minute 206 = .ok (.istore_n 2, 1) := by decide +kernel
theorem dX11_minute_207 : decode cX11_minute 207 = .ok (.iload_n 2, 1) := by decide +kernel
theorem dX11_minute_208 : decode cX11_minute 208 = .ok (.aload_n 0, 1) := by decide +kernel
theorem dX11_minute_209 : decode cX11_minute 209 = .ok (.getfield 78, 3) := by decide +kernel
theorem dX11_minute_212 : decode cX11_minute 212 = .ok (.if_icmp .ge 178, 3) := by decide +kernel
theorem dX11_minute_215 : decode cX11_minute 215 = .ok (.aload_n 0, 1) := by decide +kernel
theorem dX11_minute_216 : decode cX11_minute 216 = .ok (.getfield 32, 3) := by decide +kernel
theorem dX11_minute_219 : decode cX11_minute 219 = .ok (.iload_n 2, 1) := by decide +kernel
theorem dX11_minute_220 : decode cX11_minute 220 = .ok (.iaload, 1) := by decide +kernel
theorem dX11_minute_221 : decode cX11_minute 221 = .ok (.ifCond .ge 6, 3) := by decide +kernel
theorem dX11_minute_224 : decode cX11_minute 224 = .ok (.goto 160, 3) := by decide +kernel
theorem dX11_minute_227 : decode cX11_minute 227 = .ok (.aload_n 0, 1) := by decide +kernel
theorem dX11_minute_228 : decode cX11_minute 228 = .ok (.getfield 32, 3) := by decide +kernel
theorem dX11_minute_231 : decode cX11_minute 231 = .ok (.iload_n 2, 1) := by decide +kernel
theorem dX11_minute_232 : decode cX11_minute 232 = .ok (.iaload, 1) := by decide +kernel
theorem dX11_minute_233 : decode cX11_minute 233 = .ok (.ifCond .ne 7, 3) := by decide +kernel
theorem dX11_minute_236 : decode cX11_minute 236 = .ok (.iconst (-1), 1) := by decide +kernel
theorem dX11_minute_237 : decode cX11_minute 237 = .ok (.goto 23, 3) := by decide +kernel
theorem dX11_minute_240 : decode cX11_minute 240 = .ok (.aload_n 0, 1) := by decide +kernel
theorem dX11_minute_241 : decode cX11_minute 241 = .ok (.getfield 75, 3) := by decide +kernel
theorem dX11_minute_244 : decode cX11_minute 244 = .ok (.bipush 6, 2) := by decide +kernel
theorem dX11_minute_246 : decode cX11_minute 246 = .ok (.aload_n 0, 1) := by decide +kernel
theorem dX11_minute_247 : decode cX11_minute 247 = .ok (.getfield 32, 3) := by decide +kernel
theorem dX11_minute_250 : decode cX11_minute 250 = .ok (.iload_n 2, 1) := by decide +kernel
theorem dX11_minute_251 : decode cX11_minute 251 = .ok (.iaload, 1) := by decide +kernel
theorem dX11_minute_252 : decode cX11_minute 252 = .ok (.imul, 1) := by decide +kernel
theorem dX11_minute_253 : decode cX11_minute 253 = .ok (.iadd, 1) := by decide +kernel
theorem dX11_minute_254 : decode cX11_minute 254 = .ok (.aload_n 0, 1) := by decide +kernel
theorem dX11_minute_255 : decode cX11_minute 255 = .ok (.iload_n 2, 1) := by decide +kernel
theorem dX11_minute_256 : decode cX11_minute 256 = .ok (.invokevirtual 113, 3) := by decide +kernel
theorem dX11_minute_259 : decode cX11_minute 259 = .ok (.isub, 1) := by decide +kernel
theorem dX11_minute_260 : decode cX11_minute 260 = .ok (.istore_n 3, 1) := by decide +kernel
theorem dX11_minute_261 : decode cX11_minute 261 = .ok (.aload_n 0, 1) := by decide +kernel
theorem dX11_minute_262 : decode cX11_minute 262 = .ok (.getfield 38, 3) := by decide +kernel
theorem dX11_minute_265 : decode cX11_minute 265 = .ok (.iload_n 2, 1) := by decide +kernel
theorem dX11_minute_266 : decode cX11_minute 266 = .ok (.dup2, 1) := by decide +kernel
theorem dX11_minute_267 : decode cX11_minute 267 = .ok (.iaload, 1) := by decide +kernel
theorem dX11_minute_268 : decode cX11_minute 268 = .ok (.iload_n 3, 1) := by decide +kernel
theorem dX11_minute_269 : decode cX11_minute 269 = .ok (.ifCond .le 11, 3) := by decide +kernel
theorem dX11_minute_272 : decode cX11_minute 272 = .ok (.iload_n 3, 1) := by decide +kernel
theorem dX11_minute_273 : decode cX11_minute 273 = .ok (.iconst 5, 1) := by decide +kernel
theorem dX11_minute_274 : decode cX11_minute 274 = .ok (.idiv, 1) := by decide +kernel
theorem dX11_minute_275 : decode cX11_minute 275 = .ok (.iconst 1, 1) := by decide +kernel
theorem dX11_minute_276 : decode cX11_minute 276 = .ok (.iadd, 1) := by decide +kernel
theorem dX11_minute_277 : decode cX11_minute 277 = .ok (.goto 17, 3) := by decide +kernel
theorem dX11_minute_280 : decode cX11_minute 280 = .ok (.aload_n 0, 1) := by decide +kernel
theorem dX11_minute_281 : decode cX11_minute 281 = .ok (.getfield 38, 3) := by decide +kernel
theorem dX11_minute_284 : decode cX11_minute 284 = .ok (.iload_n 2, 1) := by decide +kernel
theorem dX11_minute_285 : decode cX11_minute 285 = .ok (.iaload, 1) := by decide +kernel
theorem dX11_minute_286 : decode cX11_minute 286 = .ok (.ifCond .le 7, 3) := by decide +kernel
theorem dX11_minute_289 : decode cX11_minute 289 = .ok (.iconst (-1), 1) := by decide +kernel
theorem dX11_minute_290 : decode cX11_minute 290 = .ok (.goto 4, 3) := by decide +kernel
theorem dX11_minute_293 : decode cX11_minute 293 = .ok (.iconst 0, 1) := by decide +kernel
theorem dX11_minute_294 : decode cX11_minute 294 = .ok (.iadd, 1) := by decide +kernel
theorem dX11_minute_295 : decode cX11_minute 295 = .ok (.iastore, 1) := by decide +kernel
theorem dX11_minute_296 : decode cX11_minute 296 = .ok (.aload_n 0, 1) := by decide +kernel
theorem dX11_minute_297 : decode cX11_minute 297 = .ok (.getfield 32, 3) := by decide +kernel
theorem dX11_minute_300 : decode cX11_minute 300 = .ok (.iload_n 2, 1) := by decide +kernel
theorem dX11_minute_301 : decode cX11_minute 301 = .ok (.iaload, 1) := by decide +kernel
theorem dX11_minute_302 : decode cX11_minute 302 = .ok (.ifCond .eq 82, 3) := by decide +kernel
theorem dX11_minute_305 : decode cX11_minute 305 = .ok (.aload_n 0, 1) := by decide +kernel
theorem dX11_minute_306 : decode cX11_minute 306 = .ok (.getfield 38, 3) := by decide +kernel
theorem dX11_minute_309 : decode cX11_minute 309 = .ok (.iload_n 2, 1) := by decide +kernel
theorem dX11_minute_310 : decode cX11_minute 310 = .ok (.iaload, 1) := by decide +kernel
theorem dX11_minute_311 : decode cX11_minute 311 = .ok (.bipush 10, 2) := by decide +kernel
theorem dX11_minute_313 : decode cX11_minute 313 = .ok (.if_icmp .ge 6, 3) := by decide +kernel
theorem dX11_minute_316 : decode cX11_minute 316 = .ok (.goto 68, 3) := by decide +kernel
theorem dX11_minute_319 : decode cX11_minute 319 = .ok (.aload_n 0, 1) := by decide +kernel
theorem dX11_minute_320 : decode cX11_minute 320 = .ok (.getfield 32, 3) := by decide +kernel
theorem dX11_minute_323 : decode cX11_minute 323 = .ok (.iload_n 2, 1) := by decide +kernel
theorem dX11_minute_324 : decode cX11_minute 324 = .ok (.iaload, 1) := by decide +kernel
theorem dX11_minute_325 : decode cX11_minute 325 = .ok (.iconst 1, 1) := by decide +kernel
theorem dX11_minute_326 : decode cX11_minute 326 = .ok (.isub, 1) := by decide +kernel
theorem dX11_minute_327 : decode cX11_minute 327 = .ok (.istore 4, 2) := by decide +kernel
theorem dX11_minute_329 : decode cX11_minute 329 = .ok (.iload 4, 2) := by decide +kernel
theorem dX11_minute_331 : decode cX11_minute 331 = .ok (.ifCond .le 22, 3) := by decide +kernel
theorem dX11_minute_334 : decode cX11_minute 334 = .ok (.aload_n 0, 1) := by decide +kernel
theorem dX11_minute_335 : decode cX11_minute 335 = .ok (.iload 4, 2) := by decide +kernel
theorem dX11_minute_337 : decode cX11_minute 337 = .ok (.invokevirtual 88, 3) := by decide +kernel
theorem dX11_minute_340 : decode cX11_minute 340 = .ok (.aload_n 0, 1) := by decide +kernel
theorem dX11_minute_341 : decode cX11_minute 341 = .ok (.getfield 63, 3) := by decide +kernel
theorem dX11_minute_344 : decode cX11_minute 344 = .ok (.if_icmp .lt 9, 3) := by decide +kernel
theorem dX11_minute_347 : decode cX11_minute 347 = .ok (.iinc 4 (-1), 3) := by decide +kernel
theorem dX11_minute_350 : decode cX11_minute 350 = .ok (.goto (-21), 3) := by decide +kernel
theorem dX11_minute_353 : decode cX11_minute 353 = .ok (.aload_n 0, 1) := by decide +kernel
theorem dX11_minute_354 : decode cX11_minute 354 = .ok (.getfield 32, 3) := by decide +kernel
theorem dX11_minute_357 : decode cX11_minute 357 = .ok (.iload_n 2, 1) := by decide +kernel
theorem dX11_minute_358 : decode cX11_minute 358 = .ok (.iload 4, 2) := by decide +kernel
theorem dX11_minute_360 : decode cX11_minute 360 = .ok (.iastore, 1) := by decide +kernel
theorem dX11_minute_361 : decode cX11_minute 361 = .ok (.aload_n 0, 1) := by decide +kernel
theorem dX11_minute_362 : decode cX11_minute 362 = .ok (.getfield 38, 3) := by decide +kernel
theorem dX11_minute_365 : decode cX11_minute 365 = .ok (.iload_n 2, 1) := by decide +kernel
theorem dX11_minute_366 : decode cX11_minute 366 = .ok (.iconst 5, 1) := by decide +kernel
theorem dX11_minute_367 : decode cX11_minute 367 = .ok (.iastore, 1) := by decide +kernel
theorem dX11_minute_368 : decode cX11_minute 368 = .ok (.aload_n 0, 1) := by decide +kernel
theorem dX11_minute_369 : decode cX11_minute 369 = .ok (.getfield 26, 3) := by decide +kernel
theorem dX11_minute_372 : decode cX11_minute 372 = .ok (.iconst 4, 1) := by decide +kernel
theorem dX11_minute_373 : decode cX11_minute 373 = .ok (.dup2, 1) := by decide +kernel
theorem dX11_minute_374 : decode cX11_minute 374 = .ok (.iaload, 1) := by decide +kernel
theorem dX11_minute_375 : decode cX11_minute 375 = .ok (.iconst 1, 1) := by decide +kernel
theorem dX11_minute_376 : decode cX11_minute 376 = .ok (.iadd, 1) := by decide +kernel
theorem dX11_minute_377 : decode cX11_minute 377 = .ok (.iastore, 1) := by decide +kernel
theorem dX11_minute_378 : decode cX11_minute 378 = .ok (.iload_n 1, 1) := by decide +kernel
theorem dX11_minute_379 : decode cX11_minute 379 = .ok (.iconst 1, 1) := by decide +kernel
theorem dX11_minute_380 : decode cX11_minute 380 = .ok (.iload_n 2, 1) := by decide +kernel
theorem dX11_minute_381 : decode cX11_minute 381 = .ok (.ishl, 1) := by decide +kernel
theorem dX11_minute_382 : decode cX11_minute 382 = .ok (.ior, 1) := by decide +kernel
theorem dX11_minute_383 : decode cX11_minute 383 = .ok (.istore_n 1, 1) := by decide +kernel
theorem dX11_minute_384 : decode cX11_minute 384 = .ok (.iinc 2 1, 3) := by decide +kernel
theorem dX11_minute_387 : decode cX11_minute 387 = .ok (.goto (-180), 3) := by decide +kernel
theorem dX11_minute_390 : decode cX11_minute 390 = .ok (.iload_n 1, 1) := by decide +kernel
theorem dX11_minute_391 : decode cX11_minute 391 = .ok (.ireturn, 1) := by decide +kernel
theorem dX11_enters_0 : decode cX11_enters 0 = .ok (.iconst 0, 1) := by decide +kernel
theorem dX11_enters_1 : decode cX11_enters 1 = .ok (.istore_n 2, 1) := by decide +kernel
theorem dX11_enters_2 : decode cX11_enters 2 = .ok (.aload_n 0, 1) := by decide +kernel
theorem dX11_enters_3 : decode cX11_enters 3 = .ok (.getfield 20, 3) := by decide +kernel
theorem dX11_enters_6 : decode cX11_enters 6 = .ok (.iload_n 2, 1) := by decide +kernel
theorem dX11_enters_7 : decode cX11_enters 7 = .ok (.iaload, 1) := by decide +kernel
theorem dX11_enters_8 : decode cX11_enters 8 = .ok (.ifCond .lt 9, 3) := by decide +kernel
theorem dX11_enters_11 : decode cX11_enters 11 = .ok (.iinc 2 1, 3) := by decide +kernel
theorem dX11_enters_14 : decode cX11_enters 14 = .ok (.goto (-12), 3) := by decide +kernel
theorem dX11_enters_17 : decode cX11_enters 17 = .ok (.aload_n 0, 1) := by decide +kernel
theorem dX11_enters_18 : decode cX11_enters 18 = .ok (.getfield 20, 3) := by decide +kernel
theorem dX11_enters_21 : decode cX11_enters 21 = .ok (.iload_n 2, 1) := by decide +kernel
theorem dX11_enters_22 : decode cX11_enters 22 = .ok (.iload_n 1, 1) := by decide +kernel
theorem dX11_enters_23 : decode cX11_enters 23 = .ok (.iastore, 1) := by decide +kernel
theorem dX11_enters_24 : decode cX11_enters 24 = .ok (.aload_n 0, 1) := by decide +kernel
theorem dX11_enters_25 : decode cX11_enters 25 = .ok (.getfield 35, 3) := by decide +kernel
theorem dX11_enters_28 : decode cX11_enters 28 = .ok (.iload_n 1, 1) := by decide +kernel
theorem dX11_enters_29 : decode cX11_enters 29 = .ok (.aload_n 0, 1) := by decide +kernel
theorem dX11_enters_30 : decode cX11_enters 30 = .ok (.invokevirtual 95, 3) := by decide +kernel
theorem dX11_enters_33 : decode cX11_enters 33 = .ok (.iastore, 1) := by decide +kernel
theorem dX11_enters_34 : decode cX11_enters 34 = .ok (.aload_n 0, 1) := by decide +kernel
theorem dX11_enters_35 : decode cX11_enters 35 = .ok (.getfield 17, 3) := by decide +kernel
theorem dX11_enters_38 : decode cX11_enters 38 = .ok (.aload_n 0, 1) := by decide +kernel
theorem dX11_enters_39 : decode cX11_enters 39 = .ok (.aload_n 0, 1) := by decide +kernel
theorem dX11_enters_40 : decode cX11_enters 40 = .ok (.getfield 35, 3) := by decide +kernel
theorem dX11_enters_43 : decode cX11_enters 43 = .ok (.iload_n 1, 1) := by decide +kernel
theorem dX11_enters_44 : decode cX11_enters 44 = .ok (.iaload, 1) := by decide +kernel
theorem dX11_enters_45 : decode cX11_enters 45 = .ok (.invokevirtual 81, 3) := by decide +kernel
theorem dX11_enters_48 : decode cX11_enters 48 = .ok (.iconst (-1), 1) := by decide +kernel
theorem dX11_enters_49 : decode cX11_enters 49 = .ok (.iastore, 1) := by decide +kernel
theorem dX11_enters_50 : decode cX11_enters 50 = .ok (.aload_n 0, 1) := by decide +kernel
theorem dX11_enters_51 : decode cX11_enters 51 = .ok (.getfield 32, 3) := by decide +kernel
theorem dX11_enters_54 : decode cX11_enters 54 = .ok (.iload_n 1, 1) := by decide +kernel
theorem dX11_enters_55 : decode cX11_enters 55 = .ok (.iconst 0, 1) := by decide +kernel
theorem dX11_enters_56 : decode cX11_enters 56 = .ok (.iastore, 1) := by decide +kernel
theorem dX11_enters_57 : decode cX11_enters 57 = .ok (.aload_n 0, 1) := by decide +kernel
theorem dX11_enters_58 : decode cX11_enters 58 = .ok (.getfield 38, 3) := by decide +kernel
theorem dX11_enters_61 : decode cX11_enters 61 = .ok (.iload_n 1, 1) := by decide +kernel
theorem dX11_enters_62 : decode cX11_enters 62 = .ok (.iconst 0, 1) := by decide +kernel
theorem dX11_enters_63 : decode cX11_enters 63 = .ok (.iastore, 1) := by decide +kernel
theorem dX11_enters_64 : decode cX11_enters 64 = .ok (.aload_n 0, 1) := by decide +kernel
theorem dX11_enters_65 : decode cX11_enters 65 = .ok (.getfield 26, 3) := by decide +kernel
theorem dX11_enters_68 : decode cX11_enters 68 = .ok (.iconst 0, 1) := by decide +kernel
theorem dX11_enters_69 : decode cX11_enters 69 = .ok (.dup2, 1) := by decide +kernel
theorem dX11_enters_70 : decode cX11_enters 70 = .ok (.iaload, 1) := by decide +kernel
theorem dX11_enters_71 : decode cX11_enters 71 = .ok (.iconst 1, 1) := by decide +kernel
theorem dX11_enters_72 : decode cX11_enters 72 = .ok (.iadd, 1) := by decide +kernel
theorem dX11_enters_73 : decode cX11_enters 73 = .ok (.iastore, 1) := by decide +kernel
theorem dX11_enters_74 : decode cX11_enters 74 = .ok (.iload_n 2, 1) := by decide +kernel
theorem dX11_enters_75 : decode cX11_enters 75 = .ok (.ireturn, 1) := by decide +kernel
theorem dX11_goes_0 : decode cX11_goes 0 = .ok (.aload_n 0, 1) := by decide +kernel
theorem dX11_goes_1 : decode cX11_goes 1 = .ok (.iload_n 1, 1) := by decide +kernel
theorem dX11_goes_2 : decode cX11_goes 2 = .ok (.invokevirtual 116, 3) := by decide +kernel
theorem dX11_goes_5 : decode cX11_goes 5 = .ok (.istore_n 2, 1) := by decide +kernel
theorem dX11_goes_6 : decode cX11_goes 6 = .ok (.aload_n 0, 1) := by decide +kernel
theorem dX11_goes_7 : decode cX11_goes 7 = .ok (.getfield 20, 3) := by decide +kernel
theorem dX11_goes_10 : decode cX11_goes 10 = .ok (.iload_n 2, 1) := by decide +kernel
theorem dX11_goes_11 : decode cX11_goes 11 = .ok (.iconst (-1), 1) := by decide +kernel
theorem dX11_goes_12 : decode cX11_goes 12 = .ok (.iastore, 1) := by decide +kernel
theorem dX11_goes_13 : decode cX11_goes 13 = .ok (.aload_n 0, 1) := by decide +kernel
theorem dX11_goes_14 : decode cX11_goes 14 = .ok (.getfield 35, 3) := by decide +kernel
theorem dX11_goes_17 : decode cX11_goes 17 = .ok (.iload_n 1, 1) := by decide +kernel
theorem dX11_goes_18 : decode cX11_goes 18 = .ok (.iconst (-1), 1) := by decide +kernel
theorem dX11_goes_19 : decode cX11_goes 19 = .ok (.iastore, 1) := by decide +kernel
theorem dX11_goes_20 : decode cX11_goes 20 = .ok (.aload_n 0, 1) := by decide +kernel
theorem dX11_goes_21 : decode cX11_goes 21 = .ok (.getfield 32, 3) := by decide +kernel
theorem dX11_goes_24 : decode cX11_goes 24 = .ok (.iload_n 1, 1) := by decide +kernel
theorem dX11_goes_25 : decode cX11_goes 25 = .ok (.iconst (-1), 1) := by decide +kernel
theorem dX11_goes_26 : decode cX11_goes 26 = .ok (.iastore, 1) := by decide +kernel
theorem dX11_goes_27 : decode cX11_goes 27 = .ok (.aload_n 0, 1) := by decide +kernel
theorem dX11_goes_28 : decode cX11_goes 28 = .ok (.getfield 26, 3) := by decide +kernel
theorem dX11_goes_31 : decode cX11_goes 31 = .ok (.iconst 1, 1) := by decide +kernel
theorem dX11_goes_32 : decode cX11_goes 32 = .ok (.dup2, 1) := by decide +kernel
theorem dX11_goes_33 : decode cX11_goes 33 = .ok (.iaload, 1) := by decide +kernel
theorem dX11_goes_34 : decode cX11_goes 34 = .ok (.iconst 1, 1) := by decide +kernel
theorem dX11_goes_35 : decode cX11_goes 35 = .ok (.iadd, 1) := by decide +kernel
theorem dX11_goes_36 : decode cX11_goes 36 = .ok (.iastore, 1) := by decide +kernel
theorem dX11_goes_37 : decode cX11_goes 37 = .ok (.iload_n 2, 1) := by decide +kernel
theorem dX11_goes_38 : decode cX11_goes 38 = .ok (.ireturn, 1) := by decide +kernel
theorem dX11_speaks_0 : decode cX11_speaks 0 = .ok (.aload_n 0, 1) := by decide +kernel
theorem dX11_speaks_1 : decode cX11_speaks 1 = .ok (.invokevirtual 119, 3) := by decide +kernel
theorem dX11_speaks_4 : decode cX11_speaks 4 = .ok (.ifCond .ne 10, 3) := by decide +kernel
theorem dX11_speaks_7 : decode cX11_speaks 7 = .ok (.aload_n 0, 1) := by decide +kernel
theorem dX11_speaks_8 : decode cX11_speaks 8 = .ok (.getfield 41, 3) := by decide +kernel
theorem dX11_speaks_11 : decode cX11_speaks 11 = .ok (.iload_n 1, 1) := by decide +kernel
theorem dX11_speaks_12 : decode cX11_speaks 12 = .ok (.iaload, 1) := by decide +kernel
theorem dX11_speaks_13 : decode cX11_speaks 13 = .ok (.ireturn, 1) := by decide +kernel
theorem dX11_speaks_14 : decode cX11_speaks 14 = .ok (.aload_n 0, 1) := by decide +kernel
theorem dX11_speaks_15 : decode cX11_speaks 15 = .ok (.getfield 41, 3) := by decide +kernel
theorem dX11_speaks_18 : decode cX11_speaks 18 = .ok (.iload_n 1, 1) := by decide +kernel
theorem dX11_speaks_19 : decode cX11_speaks 19 = .ok (.dup2, 1) := by decide +kernel
theorem dX11_speaks_20 : decode cX11_speaks 20 = .ok (.iaload, 1) := by decide +kernel
theorem dX11_speaks_21 : decode cX11_speaks 21 = .ok (.iconst 1, 1) := by decide +kernel
theorem dX11_speaks_22 : decode cX11_speaks 22 = .ok (.iadd, 1) := by decide +kernel
theorem dX11_speaks_23 : decode cX11_speaks 23 = .ok (.iastore, 1) := by decide +kernel
theorem dX11_speaks_24 : decode cX11_speaks 24 = .ok (.aload_n 0, 1) := by decide +kernel
theorem dX11_speaks_25 : decode cX11_speaks 25 = .ok (.getfield 26, 3) := by decide +kernel
theorem dX11_speaks_28 : decode cX11_speaks 28 = .ok (.iconst 3, 1) := by decide +kernel
theorem dX11_speaks_29 : decode cX11_speaks 29 = .ok (.dup2, 1) := by decide +kernel
theorem dX11_speaks_30 : decode cX11_speaks 30 = .ok (.iaload, 1) := by decide +kernel
theorem dX11_speaks_31 : decode cX11_speaks 31 = .ok (.iconst 1, 1) := by decide +kernel
theorem dX11_speaks_32 : decode cX11_speaks 32 = .ok (.iadd, 1) := by decide +kernel
theorem dX11_speaks_33 : decode cX11_speaks 33 = .ok (.iastore, 1) := by decide +kernel
theorem dX11_speaks_34 : decode cX11_speaks 34 = .ok (.aload_n 0, 1) := by decide +kernel
theorem dX11_speaks_35 : decode cX11_speaks 35 = .ok (.getfield 41, 3) := by decide +kernel
theorem dX11_speaks_38 : decode cX11_speaks 38 = .ok (.iload_n 1, 1) := by decide +kernel
theorem dX11_speaks_39 : decode cX11_speaks 39 = .ok (.iaload, 1) := by decide +kernel
theorem dX11_speaks_40 : decode cX11_speaks 40 = .ok (.iconst 3, 1) := by decide +kernel
theorem dX11_speaks_41 : decode cX11_speaks 41 = .ok (.if_icmp .ge 10, 3) := by decide +kernel
theorem dX11_speaks_44 : decode cX11_speaks 44 = .ok (.aload_n 0, 1) := by decide +kernel
theorem dX11_speaks_45 : decode cX11_speaks 45 = .ok (.getfield 41, 3) := by decide +kernel
theorem dX11_speaks_48 : decode cX11_speaks 48 = .ok (.iload_n 1, 1) := by decide +kernel
theorem dX11_speaks_49 : decode cX11_speaks 49 = .ok (.iaload, 1) := by decide +kernel
theorem dX11_speaks_50 : decode cX11_speaks 50 = .ok (.ireturn, 1) := by decide +kernel
theorem dX11_speaks_51 : decode cX11_speaks 51 = .ok (.aload_n 0, 1) := by decide +kernel
theorem dX11_speaks_52 : decode cX11_speaks 52 = .ok (.iload_n 1, 1) := by decide +kernel
theorem dX11_speaks_53 : decode cX11_speaks 53 = .ok (.invokevirtual 123, 3) := by decide +kernel
theorem dX11_speaks_56 : decode cX11_speaks 56 = .ok (.istore_n 2, 1) := by decide +kernel
theorem dX11_speaks_57 : decode cX11_speaks 57 = .ok (.aload_n 0, 1) := by decide +kernel
theorem dX11_speaks_58 : decode cX11_speaks 58 = .ok (.getfield 41, 3) := by decide +kernel
theorem dX11_speaks_61 : decode cX11_speaks 61 = .ok (.iload_n 1, 1) := by decide +kernel
theorem dX11_speaks_62 : decode cX11_speaks 62 = .ok (.iconst 0, 1) := by decide +kernel
theorem dX11_speaks_63 : decode cX11_speaks 63 = .ok (.iastore, 1) := by decide +kernel
theorem dX11_speaks_64 : decode cX11_speaks 64 = .ok (.aload_n 0, 1) := by decide +kernel
theorem dX11_speaks_65 : decode cX11_speaks 65 = .ok (.getfield 44, 3) := by decide +kernel
theorem dX11_speaks_68 : decode cX11_speaks 68 = .ok (.iload_n 1, 1) := by decide +kernel
theorem dX11_speaks_69 : decode cX11_speaks 69 = .ok (.aload_n 0, 1) := by decide +kernel
theorem dX11_speaks_70 : decode cX11_speaks 70 = .ok (.getfield 72, 3) := by decide +kernel
theorem dX11_speaks_73 : decode cX11_speaks 73 = .ok (.sipush 600, 3) := by decide +kernel
theorem dX11_speaks_76 : decode cX11_speaks 76 = .ok (.idiv, 1) := by decide +kernel
theorem dX11_speaks_77 : decode cX11_speaks 77 = .ok (.iastore, 1) := by decide +kernel
theorem dX11_speaks_78 : decode cX11_speaks 78 = .ok (.aload_n 0, 1) := by decide +kernel
theorem dX11_speaks_79 : decode cX11_speaks 79 = .ok (.getfield 26, 3) := by decide +kernel
theorem dX11_speaks_82 : decode cX11_speaks 82 = .ok (.iconst 2, 1) := by decide +kernel
theorem dX11_speaks_83 : decode cX11_speaks 83 = .ok (.dup2, 1) := by decide +kernel
theorem dX11_speaks_84 : decode cX11_speaks 84 = .ok (.iaload, 1) := by decide +kernel
theorem dX11_speaks_85 : decode cX11_speaks 85 = .ok (.iconst 1, 1) := by decide +kernel
theorem dX11_speaks_86 : decode cX11_speaks 86 = .ok (.iadd, 1) := by decide +kernel
theorem dX11_speaks_87 : decode cX11_speaks 87 = .ok (.iastore, 1) := by decide +kernel
theorem dX11_speaks_88 : decode cX11_speaks 88 = .ok (.iconst 3, 1) := by decide +kernel
theorem dX11_speaks_89 : decode cX11_speaks 89 = .ok (.ireturn, 1) := by decide +kernel
theorem dX11_washes_0 : decode cX11_washes 0 = .ok (.iconst 0, 1) := by decide +kernel
theorem dX11_washes_1 : decode cX11_washes 1 = .ok (.istore_n 1, 1) := by decide +kernel
theorem dX11_washes_2 : decode cX11_washes 2 = .ok (.iconst 0, 1) := by decide +kernel
theorem dX11_washes_3 : decode cX11_washes 3 = .ok (.istore_n 2, 1) := by decide +kernel
theorem dX11_washes_4 : decode cX11_washes 4 = .ok (.iload_n 2, 1) := by decide +kernel
theorem dX11_washes_5 : decode cX11_washes 5 = .ok (.aload_n 0, 1) := by decide +kernel
theorem dX11_washes_6 : decode cX11_washes 6 = .ok (.getfield 54, 3) := by decide +kernel
theorem dX11_washes_9 : decode cX11_washes 9 = .ok (.if_icmp .ge 54, 3) := by decide +kernel
theorem dX11_washes_12 : decode cX11_washes 12 = .ok (.aload_n 0, 1) := by decide +kernel
theorem dX11_washes_13 : decode cX11_washes 13 = .ok (.iload_n 2, 1) := by decide +kernel
theorem dX11_washes_14 : decode cX11_washes 14 = .ok (.invokevirtual 126, 3) := by decide +kernel
theorem dX11_washes_17 : decode cX11_washes 17 = .ok (.ifCond .ne 6, 3) := by decide +kernel
theorem dX11_washes_20 : decode cX11_washes 20 = .ok (.goto 37, 3) := by decide +kernel
theorem dX11_washes_23 : decode cX11_washes 23 = .ok (.iconst 0, 1) := by decide +kernel
theorem dX11_washes_24 : decode cX11_washes 24 = .ok (.istore_n 3, 1) := by decide +kernel
theorem dX11_washes_25 : decode cX11_washes 25 = .ok (.aload_n 0, 1) := by decide +kernel
theorem dX11_washes_26 : decode cX11_washes 26 = .ok (.getfield 17, 3) := by decide +kernel
theorem dX11_washes_29 : decode cX11_washes 29 = .ok (.iload_n 3, 1) := by decide +kernel
theorem dX11_washes_30 : decode cX11_washes 30 = .ok (.iaload, 1) := by decide +kernel
theorem dX11_washes_31 : decode cX11_washes 31 = .ok (.ifCond .lt 9, 3) := by decide +kernel
theorem dX11_washes_34 : decode cX11_washes 34 = .ok (.iinc 3 1, 3) := by decide +kernel
theorem dX11_washes_37 : decode cX11_washes 37 = .ok (.goto (-12), 3) := by decide +kernel
theorem dX11_washes_40 : decode cX11_washes 40 = .ok (.aload_n 0, 1) := by decide +kernel
theorem dX11_washes_41 : decode cX11_washes 41 = .ok (.getfield 17, 3) := by decide +kernel
theorem dX11_washes_44 : decode cX11_washes 44 = .ok (.iload_n 3, 1) := by decide +kernel
theorem dX11_washes_45 : decode cX11_washes 45 = .ok (.iload_n 2, 1) := by decide +kernel
theorem dX11_washes_46 : decode cX11_washes 46 = .ok (.iastore, 1) := by decide +kernel
theorem dX11_washes_47 : decode cX11_washes 47 = .ok (.aload_n 0, 1) := by decide +kernel
theorem dX11_washes_48 : decode cX11_washes 48 = .ok (.getfield 23, 3) := by decide +kernel
theorem dX11_washes_51 : decode cX11_washes 51 = .ok (.iload_n 2, 1) := by decide +kernel
theorem dX11_washes_52 : decode cX11_washes 52 = .ok (.iconst 0, 1) := by decide +kernel
theorem dX11_washes_53 : decode cX11_washes 53 = .ok (.iastore, 1) := by decide +kernel
theorem dX11_washes_54 : decode cX11_washes 54 = .ok (.iinc 1 1, 3) := by decide +kernel
theorem dX11_washes_57 : decode cX11_washes 57 = .ok (.iinc 2 1, 3) := by decide +kernel
theorem dX11_washes_60 : decode cX11_washes 60 = .ok (.goto (-56), 3) := by decide +kernel
theorem dX11_washes_63 : decode cX11_washes 63 = .ok (.aload_n 0, 1) := by decide +kernel
theorem dX11_washes_64 : decode cX11_washes 64 = .ok (.getfield 26, 3) := by decide +kernel
theorem dX11_washes_67 : decode cX11_washes 67 = .ok (.iconst 5, 1) := by decide +kernel
theorem dX11_washes_68 : decode cX11_washes 68 = .ok (.dup2, 1) := by decide +kernel
theorem dX11_washes_69 : decode cX11_washes 69 = .ok (.iaload, 1) := by decide +kernel
theorem dX11_washes_70 : decode cX11_washes 70 = .ok (.iload_n 1, 1) := by decide +kernel
theorem dX11_washes_71 : decode cX11_washes 71 = .ok (.iadd, 1) := by decide +kernel
theorem dX11_washes_72 : decode cX11_washes 72 = .ok (.iastore, 1) := by decide +kernel
theorem dX11_washes_73 : decode cX11_washes 73 = .ok (.iload_n 1, 1) := by decide +kernel
theorem dX11_washes_74 : decode cX11_washes 74 = .ok (.ireturn, 1) := by decide +kernel
theorem dJ4_init_da8c8_0 : decode cJ4_init_da8c8 0 = .ok (.aload_n 0, 1) := by decide +kernel
theorem dJ4_init_da8c8_1 : decode cJ4_init_da8c8 1 = .ok (.bipush 16, 2) := by decide +kernel
theorem dJ4_init_da8c8_3 : decode cJ4_init_da8c8 3 = .ok (.invokespecial 1, 3) := by decide +kernel
theorem dJ4_init_da8c8_6 : decode cJ4_init_da8c8 6 = .ok (.return_, 1) := by decide +kernel
theorem dJ4_init_a7421_0 : decode cJ4_init_a7421 0 = .ok (.aload_n 0, 1) := by decide +kernel
theorem dJ4_init_a7421_1 : decode cJ4_init_a7421 1 = .ok (.aload_n 1, 1) := by decide +kernel
theorem dJ4_init_a7421_2 : decode cJ4_init_a7421 2 = .ok (.invokespecial 7, 3) := by decide +kernel
theorem dJ4_init_a7421_5 : decode cJ4_init_a7421 5 = .ok (.return_, 1) := by decide +kernel
theorem dJ4_append_15ec4_0 : decode cJ4_append_15ec4 0 = .ok (.aload_n 0, 1) := by decide +kernel
theorem dJ4_append_15ec4_1 : decode cJ4_append_15ec4 1 = .ok (.aload_n 1, 1) := by decide +kernel
theorem dJ4_append_15ec4_2 : decode cJ4_append_15ec4 2 = .ok (.invokespecial 29, 3) := by decide +kernel
theorem dJ4_append_15ec4_5 : decode cJ4_append_15ec4 5 = .ok (.pop, 1) := by decide +kernel
theorem dJ4_append_15ec4_6 : decode cJ4_append_15ec4 6 = .ok (.aload_n 0, 1) := by decide +kernel
theorem dJ4_append_15ec4_7 : decode cJ4_append_15ec4 7 = .ok (.areturn, 1) := by decide +kernel
theorem dJ4_append_cf468_0 : decode cJ4_append_cf468 0 = .ok (.aload_n 0, 1) := by decide +kernel
theorem dJ4_append_cf468_1 : decode cJ4_append_cf468 1 = .ok (.iload_n 1, 1) := by decide +kernel
theorem dJ4_append_cf468_2 : decode cJ4_append_cf468 2 = .ok (.invokespecial 50, 3) := by decide +kernel
theorem dJ4_append_cf468_5 : decode cJ4_append_cf468 5 = .ok (.pop, 1) := by decide +kernel
theorem dJ4_append_cf468_6 : decode cJ4_append_cf468 6 = .ok (.aload_n 0, 1) := by decide +kernel
theorem dJ4_append_cf468_7 : decode cJ4_append_cf468 7 = .ok (.areturn, 1) := by decide +kernel
theorem dJ4_append_bf812_0 : decode cJ4_append_bf812 0 = .ok (.aload_n 0, 1) := by decide +kernel
theorem dJ4_append_bf812_1 : decode cJ4_append_bf812 1 = .ok (.iload_n 1, 1) := by decide +kernel
theorem dJ4_append_bf812_2 : decode cJ4_append_bf812 2 = .ok (.invokespecial 53, 3) := by decide +kernel
theorem dJ4_append_bf812_5 : decode cJ4_append_bf812 5 = .ok (.pop, 1) := by decide +kernel
theorem dJ4_append_bf812_6 : decode cJ4_append_bf812 6 = .ok (.aload_n 0, 1) := by decide +kernel
theorem dJ4_append_bf812_7 : decode cJ4_append_bf812 7 = .ok (.areturn, 1) := by decide +kernel
theorem dJ4_toString_0e30d_0 : decode cJ4_toString_0e30d 0 = .ok (.new 18, 3) := by decide +kernel
theorem dJ4_toString_0e30d_3 : decode cJ4_toString_0e30d 3 = .ok (.dup, 1) := by decide +kernel
theorem dJ4_toString_0e30d_4 : decode cJ4_toString_0e30d 4 = .ok (.aload_n 0, 1) := by decide +kernel
theorem dJ4_toString_0e30d_5 : decode cJ4_toString_0e30d 5 = .ok (.invokespecial 137, 3) := by decide +kernel
theorem dJ4_toString_0e30d_8 : decode cJ4_toString_0e30d 8 = .ok (.areturn, 1) := by decide +kernel
theorem dJ4_append_cf1ce_0 : decode cJ4_append_cf1ce 0 = .ok (.aload_n 0, 1) := by decide +kernel
theorem dJ4_append_cf1ce_1 : decode cJ4_append_cf1ce 1 = .ok (.aload_n 1, 1) := by decide +kernel
theorem dJ4_append_cf1ce_2 : decode cJ4_append_cf1ce 2 = .ok (.invokevirtual 23, 3) := by decide +kernel
theorem dJ4_append_cf1ce_5 : decode cJ4_append_cf1ce 5 = .ok (.areturn, 1) := by decide +kernel
theorem dJ4_length_8abf5_0 : decode cJ4_length_8abf5 0 = .ok (.aload_n 0, 1) := by decide +kernel
theorem dJ4_length_8abf5_1 : decode cJ4_length_8abf5 1 = .ok (.invokespecial 343, 3) := by decide +kernel
theorem dJ4_length_8abf5_4 : decode cJ4_length_8abf5 4 = .ok (.ireturn, 1) := by decide +kernel
theorem dJ5_init_d00df_0 : decode cJ5_init_d00df 0 = .ok (.aload_n 0, 1) := by decide +kernel
theorem dJ5_init_d00df_1 : decode cJ5_init_d00df 1 = .ok (.invokespecial 3, 3) := by decide +kernel
theorem dJ5_init_d00df_4 : decode cJ5_init_d00df 4 = .ok (.getstatic 18, 3) := by decide +kernel
theorem dJ5_init_d00df_7 : decode cJ5_init_d00df 7 = .ok (.ifCond .eq 18, 3) := by decide +kernel
theorem dJ5_init_d00df_10 : decode cJ5_init_d00df 10 = .ok (.aload_n 0, 1) := by decide +kernel
theorem dJ5_init_d00df_11 : decode cJ5_init_d00df 11 = .ok (.iload_n 1, 1) := by decide +kernel
theorem dJ5_init_d00df_12 : decode cJ5_init_d00df 12 = .ok (.newarray .byte, 2) := by decide +kernel
theorem dJ5_init_d00df_14 : decode cJ5_init_d00df 14 = .ok (.putfield 15, 3) := by decide +kernel
theorem dJ5_init_d00df_17 : decode cJ5_init_d00df 17 = .ok (.aload_n 0, 1) := by decide +kernel
theorem dJ5_init_d00df_18 : decode cJ5_init_d00df 18 = .ok (.iconst 0, 1) := by decide +kernel
theorem dJ5_init_d00df_19 : decode cJ5_init_d00df 19 = .ok (.putfield 22, 3) := by decide +kernel
theorem dJ5_init_d00df_22 : decode cJ5_init_d00df 22 = .ok (.goto 16, 3) := by decide +kernel
theorem dJ5_init_d00df_25 : decode cJ5_init_d00df 25 = .ok (.aload_n 0, 1) := by decide +kernel
theorem dJ5_init_d00df_26 : decode cJ5_init_d00df 26 = .ok (.iload_n 1, 1) := by decide +kernel
theorem dJ5_init_d00df_27 : decode cJ5_init_d00df 27 = .ok (.invokestatic 26, 3) := by decide +kernel
theorem dJ5_init_d00df_30 : decode cJ5_init_d00df 30 = .ok (.putfield 15, 3) := by decide +kernel
theorem dJ5_init_d00df_33 : decode cJ5_init_d00df 33 = .ok (.aload_n 0, 1) := by decide +kernel
theorem dJ5_init_d00df_34 : decode cJ5_init_d00df 34 = .ok (.iconst 1, 1) := by decide +kernel
theorem dJ5_init_d00df_35 : decode cJ5_init_d00df 35 = .ok (.putfield 22, 3) := by decide +kernel
theorem dJ5_init_d00df_38 : decode cJ5_init_d00df 38 = .ok (.return_, 1) := by decide +kernel
theorem dJ5_init_a7421_0 : decode cJ5_init_a7421 0 = .ok (.aload_n 0, 1) := by decide +kernel
theorem dJ5_init_a7421_1 : decode cJ5_init_a7421 1 = .ok (.invokespecial 3, 3) := by decide +kernel
theorem dJ5_init_a7421_4 : decode cJ5_init_a7421 4 = .ok (.aload_n 1, 1) := by decide +kernel
theorem dJ5_init_a7421_5 : decode cJ5_init_a7421 5 = .ok (.invokevirtual 32, 3) := by decide +kernel
theorem dJ5_init_a7421_8 : decode cJ5_init_a7421 8 = .ok (.istore_n 2, 1) := by decide +kernel
theorem dJ5_init_a7421_9 : decode cJ5_init_a7421 9 = .ok (.iload_n 2, 1) := by decide +kernel
theorem dJ5_init_a7421_10 : decode cJ5_init_a7421 10 = .ok (.ldc 38, 2) := by decide +kernel
theorem dJ5_init_a7421_12 : decode cJ5_init_a7421 12 = .ok (.if_icmp .ge 10, 3) := by decide +kernel
theorem dJ5_init_a7421_15 : decode cJ5_init_a7421 15 = .ok (.iload_n 2, 1) := by decide +kernel
theorem dJ5_init_a7421_16 : decode cJ5_init_a7421 16 = .ok (.bipush 16, 2) := by decide +kernel
theorem dJ5_init_a7421_18 : decode cJ5_init_a7421 18 = .ok (.iadd, 1) := by decide +kernel
theorem dJ5_init_a7421_19 : decode cJ5_init_a7421 19 = .ok (.goto 5, 3) := by decide +kernel
theorem dJ5_init_a7421_22 : decode cJ5_init_a7421 22 = .ok (.ldc 39, 2) := by decide +kernel
theorem dJ5_init_a7421_24 : decode cJ5_init_a7421 24 = .ok (.istore_n 3, 1) := by decide +kernel
theorem dJ5_init_a7421_25 : decode cJ5_init_a7421 25 = .ok (.aload_n 1, 1) := by decide +kernel
theorem dJ5_init_a7421_26 : decode cJ5_init_a7421 26 = .ok (.invokevirtual 40, 3) := by decide +kernel
theorem dJ5_init_a7421_29 : decode cJ5_init_a7421 29 = .ok (.istore 4, 2) := by decide +kernel
theorem dJ5_init_a7421_31 : decode cJ5_init_a7421 31 = .ok (.aload_n 0, 1) := by decide +kernel
theorem dJ5_init_a7421_32 : decode cJ5_init_a7421 32 = .ok (.iload 4, 2) := by decide +kernel
theorem dJ5_init_a7421_34 : decode cJ5_init_a7421 34 = .ok (.putfield 22, 3) := by decide +kernel
theorem dJ5_init_a7421_37 : decode cJ5_init_a7421 37 = .ok (.aload_n 0, 1) := by decide +kernel
theorem dJ5_init_a7421_38 : decode cJ5_init_a7421 38 = .ok (.iload 4, 2) := by decide +kernel
theorem dJ5_init_a7421_40 : decode cJ5_init_a7421 40 = .ok (.ifCond .ne 9, 3) := by decide +kernel
theorem dJ5_init_a7421_43 : decode cJ5_init_a7421 43 = .ok (.iload_n 3, 1) := by decide +kernel
theorem dJ5_init_a7421_44 : decode cJ5_init_a7421 44 = .ok (.newarray .byte, 2) := by decide +kernel
theorem dJ5_init_a7421_46 : decode cJ5_init_a7421 46 = .ok (.goto 7, 3) := by decide +kernel
theorem dJ5_init_a7421_49 : decode cJ5_init_a7421 49 = .ok (.iload_n 3, 1) := by decide +kernel
theorem dJ5_init_a7421_50 : decode cJ5_init_a7421 50 = .ok (.invokestatic 26, 3) := by decide +kernel
theorem dJ5_init_a7421_53 : decode cJ5_init_a7421 53 = .ok (.putfield 15, 3) := by decide +kernel
theorem dJ5_init_a7421_56 : decode cJ5_init_a7421 56 = .ok (.aload_n 0, 1) := by decide +kernel
theorem dJ5_init_a7421_57 : decode cJ5_init_a7421 57 = .ok (.aload_n 1, 1) := by decide +kernel
theorem dJ5_init_a7421_58 : decode cJ5_init_a7421 58 = .ok (.invokevirtual 43, 3) := by decide +kernel
theorem dJ5_init_a7421_61 : decode cJ5_init_a7421 61 = .ok (.pop, 1) := by decide +kernel
theorem dJ5_init_a7421_62 : decode cJ5_init_a7421 62 = .ok (.return_, 1) := by decide +kernel
theorem dJ5_length_8abf5_0 : decode cJ5_length_8abf5 0 = .ok (.aload_n 0, 1) := by decide +kernel
theorem dJ5_length_8abf5_1 : decode cJ5_length_8abf5 1 = .ok (.getfield 79, 3) := by decide +kernel
theorem dJ5_length_8abf5_4 : decode cJ5_length_8abf5 4 = .ok (.ireturn, 1) := by decide +kernel
theorem dJ5_ensureCapacityInternal_d00df_0 : decode cJ5_ensureCapacityInternal_d00df 0 = .ok (.aload_n 0, 1) := by decide +kernel
theorem dJ5_ensureCapacityInternal_d00df_1 : decode cJ5_ensureCapacityInternal_d00df 1 = .ok (.getfield 15, 3) := by decide +kernel
theorem dJ5_ensureCapacityInternal_d00df_4 : decode cJ5_ensureCapacityInternal_d00df 4 = .ok (.arraylength, 1) := by decide +kernel
theorem dJ5_ensureCapacityInternal_d00df_5 : decode cJ5_ensureCapacityInternal_d00df 5 = .ok (.aload_n 0, 1) := by decide +kernel
theorem dJ5_ensureCapacityInternal_d00df_6 : decode cJ5_ensureCapacityInternal_d00df 6 = .ok (.getfield 22, 3) := by decide +kernel
theorem dJ5_ensureCapacityInternal_d00df_9 : decode cJ5_ensureCapacityInternal_d00df 9 = .ok (.ishr, 1) := by decide +kernel
theorem dJ5_ensureCapacityInternal_d00df_10 : decode cJ5_ensureCapacityInternal_d00df 10 = .ok (.istore_n 2, 1) := by decide +kernel
theorem dJ5_ensureCapacityInternal_d00df_11 : decode cJ5_ensureCapacityInternal_d00df 11 = .ok (.iload_n 1, 1) := by decide +kernel
theorem dJ5_ensureCapacityInternal_d00df_12 : decode cJ5_ensureCapacityInternal_d00df 12 = .ok (.iload_n 2, 1) := by decide +kernel
theorem dJ5_ensureCapacityInternal_d00df_13 : decode cJ5_ensureCapacityInternal_d00df 13 = .ok (.isub, 1) := by decide +kernel
theorem dJ5_ensureCapacityInternal_d00df_14 : decode cJ5_ensureCapacityInternal_d00df 14 = .ok (.ifCond .le 24, 3) := by decide +kernel
theorem dJ5_ensureCapacityInternal_d00df_17 : decode cJ5_ensureCapacityInternal_d00df 17 = .ok (.aload_n 0, 1) := by decide +kernel
theorem dJ5_ensureCapacityInternal_d00df_18 : decode cJ5_ensureCapacityInternal_d00df 18 = .ok (.aload_n 0, 1) := by decide +kernel
theorem dJ5_ensureCapacityInternal_d00df_19 : decode cJ5_ensureCapacityInternal_d00df 19 = .ok (.getfield 15, 3) := by decide +kernel
theorem dJ5_ensureCapacityInternal_d00df_22 : decode cJ5_ensureCapacityInternal_d00df 22 = .ok (.aload_n 0, 1) := by decide +kernel
theorem dJ5_ensureCapacityInternal_d00df_23 : decode cJ5_ensureCapacityInternal_d00df 23 = .ok (.iload_n 1, 1) := by decide +kernel
theorem dJ5_ensureCapacityInternal_d00df_24 : decode cJ5_ensureCapacityInternal_d00df 24 = .ok (.invokevirtual 104, 3) := by decide +kernel
theorem dJ5_ensureCapacityInternal_d00df_27 : decode cJ5_ensureCapacityInternal_d00df 27 = .ok (.aload_n 0, 1) := by decide +kernel
theorem dJ5_ensureCapacityInternal_d00df_28 : decode cJ5_ensureCapacityInternal_d00df 28 = .ok (.getfield 22, 3) := by decide +kernel
theorem dJ5_ensureCapacityInternal_d00df_31 : decode cJ5_ensureCapacityInternal_d00df 31 = .ok (.ishl, 1) := by decide +kernel
theorem dJ5_ensureCapacityInternal_d00df_32 : decode cJ5_ensureCapacityInternal_d00df 32 = .ok (.invokestatic 108, 3) := by decide +kernel
theorem dJ5_ensureCapacityInternal_d00df_35 : decode cJ5_ensureCapacityInternal_d00df 35 = .ok (.putfield 15, 3) := by decide +kernel
theorem dJ5_ensureCapacityInternal_d00df_38 : decode cJ5_ensureCapacityInternal_d00df 38 = .ok (.return_, 1) := by decide +kernel
theorem dJ5_newCapacity_0f7a4_0 : decode cJ5_newCapacity_0f7a4 0 = .ok (.aload_n 0, 1) := by decide +kernel
theorem dJ5_newCapacity_0f7a4_1 : decode cJ5_newCapacity_0f7a4 1 = .ok (.getfield 15, 3) := by decide +kernel
theorem dJ5_newCapacity_0f7a4_4 : decode cJ5_newCapacity_0f7a4 4 = .ok (.arraylength, 1) := by decide +kernel
theorem dJ5_newCapacity_0f7a4_5 : decode cJ5_newCapacity_0f7a4 5 = .ok (.istore_n 2, 1) := by decide +kernel
theorem dJ5_newCapacity_0f7a4_6 : decode cJ5_newCapacity_0f7a4 6 = .ok (.iload_n 1, 1) := by decide +kernel
theorem dJ5_newCapacity_0f7a4_7 : decode cJ5_newCapacity_0f7a4 7 = .ok (.aload_n 0, 1) := by decide +kernel
theorem dJ5_newCapacity_0f7a4_8 : decode cJ5_newCapacity_0f7a4 8 = .ok (.getfield 22, 3) := by decide +kernel
theorem dJ5_newCapacity_0f7a4_11 : decode cJ5_newCapacity_0f7a4 11 = .ok (.ishl, 1) := by decide +kernel
theorem dJ5_newCapacity_0f7a4_12 : decode cJ5_newCapacity_0f7a4 12 = .ok (.istore_n 3, 1) := by decide +kernel
theorem dJ5_newCapacity_0f7a4_13 : decode cJ5_newCapacity_0f7a4 13 = .ok (.iload_n 3, 1) := by decide +kernel
theorem dJ5_newCapacity_0f7a4_14 : decode cJ5_newCapacity_0f7a4 14 = .ok (.iload_n 2, 1) := by decide +kernel
theorem dJ5_newCapacity_0f7a4_15 : decode cJ5_newCapacity_0f7a4 15 = .ok (.isub, 1) := by decide +kernel
theorem dJ5_newCapacity_0f7a4_16 : decode cJ5_newCapacity_0f7a4 16 = .ok (.istore 4, 2) := by decide +kernel
theorem dJ5_newCapacity_0f7a4_18 : decode cJ5_newCapacity_0f7a4 18 = .ok (.iload_n 2, 1) := by decide +kernel
theorem dJ5_newCapacity_0f7a4_19 : decode cJ5_newCapacity_0f7a4 19 = .ok (.iload 4, 2) := by decide +kernel
theorem dJ5_newCapacity_0f7a4_21 : decode cJ5_newCapacity_0f7a4 21 = .ok (.iload_n 2, 1) := by decide +kernel
theorem dJ5_newCapacity_0f7a4_22 : decode cJ5_newCapacity_0f7a4 22 = .ok (.iconst 2, 1) := by decide +kernel
theorem dJ5_newCapacity_0f7a4_23 : decode cJ5_newCapacity_0f7a4 23 = .ok (.aload_n 0, 1) := by decide +kernel
theorem dJ5_newCapacity_0f7a4_24 : decode cJ5_newCapacity_0f7a4 24 = .ok (.getfield 22, 3) := by decide +kernel
theorem dJ5_newCapacity_0f7a4_27 : decode cJ5_newCapacity_0f7a4 27 = .ok (.ishl, 1) := by decide +kernel
theorem dJ5_newCapacity_0f7a4_28 : decode cJ5_newCapacity_0f7a4 28 = .ok (.iadd, 1) := by decide +kernel
theorem dJ5_newCapacity_0f7a4_29 : decode cJ5_newCapacity_0f7a4 29 = .ok (.invokestatic 114, 3) := by decide +kernel
theorem dJ5_newCapacity_0f7a4_32 : decode cJ5_newCapacity_0f7a4 32 = .ok (.istore 5, 2) := by decide +kernel
theorem dJ5_newCapacity_0f7a4_34 : decode cJ5_newCapacity_0f7a4 34 = .ok (.iload 5, 2) := by decide +kernel
theorem dJ5_newCapacity_0f7a4_36 : decode cJ5_newCapacity_0f7a4 36 = .ok (.ldc 39, 2) := by decide +kernel
theorem dJ5_newCapacity_0f7a4_38 : decode cJ5_newCapacity_0f7a4 38 = .ok (.if_icmp .ne 13, 3) := by decide +kernel
theorem dJ5_newCapacity_0f7a4_41 : decode cJ5_newCapacity_0f7a4 41 = .ok (.new 120, 3) := by decide +kernel
theorem dJ5_newCapacity_0f7a4_44 : decode cJ5_newCapacity_0f7a4 44 = .ok (.dup, 1) := by decide +kernel
theorem dJ5_newCapacity_0f7a4_45 : decode cJ5_newCapacity_0f7a4 45 = .ok (.ldc 122, 2) := by decide +kernel
theorem dJ5_newCapacity_0f7a4_47 : decode cJ5_newCapacity_0f7a4 47 = .ok (.invokespecial 124, 3) := by decide +kernel
theorem dJ5_newCapacity_0f7a4_50 : decode cJ5_newCapacity_0f7a4 50 = .ok (.athrow, 1) := by decide +kernel
theorem dJ5_newCapacity_0f7a4_51 : decode cJ5_newCapacity_0f7a4 51 = .ok (.iload 5, 2) := by decide +kernel
theorem dJ5_newCapacity_0f7a4_53 : decode cJ5_newCapacity_0f7a4 53 = .ok (.aload_n 0, 1) := by decide +kernel
theorem dJ5_newCapacity_0f7a4_54 : decode cJ5_newCapacity_0f7a4 54 = .ok (.getfield 22, 3) := by decide +kernel
theorem dJ5_newCapacity_0f7a4_57 : decode cJ5_newCapacity_0f7a4 57 = .ok (.ishr, 1) := by decide +kernel
theorem dJ5_newCapacity_0f7a4_58 : decode cJ5_newCapacity_0f7a4 58 = .ok (.ireturn, 1) := by decide +kernel
theorem dJ5_inflate_da8c8_0 : decode cJ5_inflate_da8c8 0 = .ok (.aload_n 0, 1) := by decide +kernel
theorem dJ5_inflate_da8c8_1 : decode cJ5_inflate_da8c8 1 = .ok (.invokevirtual 83, 3) := by decide +kernel
theorem dJ5_inflate_da8c8_4 : decode cJ5_inflate_da8c8 4 = .ok (.ifCond .ne 4, 3) := by decide +kernel
theorem dJ5_inflate_da8c8_7 : decode cJ5_inflate_da8c8 7 = .ok (.return_, 1) := by decide +kernel
theorem dJ5_inflate_da8c8_8 : decode cJ5_inflate_da8c8 8 = .ok (.aload_n 0, 1) := by decide +kernel
theorem dJ5_inflate_da8c8_9 : decode cJ5_inflate_da8c8 9 = .ok (.getfield 15, 3) := by decide +kernel
theorem dJ5_inflate_da8c8_12 : decode cJ5_inflate_da8c8 12 = .ok (.arraylength, 1) := by decide +kernel
theorem dJ5_inflate_da8c8_13 : decode cJ5_inflate_da8c8 13 = .ok (.invokestatic 26, 3) := by decide +kernel
theorem dJ5_inflate_da8c8_16 : decode cJ5_inflate_da8c8 16 = .ok (.astore_n 1, 1) := by decide +kernel
theorem dJ5_inflate_da8c8_17 : decode cJ5_inflate_da8c8 17 = .ok (.aload_n 0, 1) := by decide +kernel
theorem dJ5_inflate_da8c8_18 : decode cJ5_inflate_da8c8 18 = .ok (.getfield 15, 3) := by decide +kernel
theorem dJ5_inflate_da8c8_21 : decode cJ5_inflate_da8c8 21 = .ok (.iconst 0, 1) := by decide +kernel
theorem dJ5_inflate_da8c8_22 : decode cJ5_inflate_da8c8 22 = .ok (.aload_n 1, 1) := by decide +kernel
theorem dJ5_inflate_da8c8_23 : decode cJ5_inflate_da8c8 23 = .ok (.iconst 0, 1) := by decide +kernel
theorem dJ5_inflate_da8c8_24 : decode cJ5_inflate_da8c8 24 = .ok (.aload_n 0, 1) := by decide +kernel
theorem dJ5_inflate_da8c8_25 : decode cJ5_inflate_da8c8 25 = .ok (.getfield 79, 3) := by decide +kernel
theorem dJ5_inflate_da8c8_28 : decode cJ5_inflate_da8c8 28 = .ok (.invokestatic 125, 3) := by decide +kernel
theorem dJ5_inflate_da8c8_31 : decode cJ5_inflate_da8c8 31 = .ok (.aload_n 0, 1) := by decide +kernel
theorem dJ5_inflate_da8c8_32 : decode cJ5_inflate_da8c8 32 = .ok (.aload_n 1, 1) := by decide +kernel
theorem dJ5_inflate_da8c8_33 : decode cJ5_inflate_da8c8 33 = .ok (.putfield 15, 3) := by decide +kernel
theorem dJ5_inflate_da8c8_36 : decode cJ5_inflate_da8c8 36 = .ok (.aload_n 0, 1) := by decide +kernel
theorem dJ5_inflate_da8c8_37 : decode cJ5_inflate_da8c8 37 = .ok (.iconst 1, 1) := by decide +kernel
theorem dJ5_inflate_da8c8_38 : decode cJ5_inflate_da8c8 38 = .ok (.putfield 22, 3) := by decide +kernel
theorem dJ5_inflate_da8c8_41 : decode cJ5_inflate_da8c8 41 = .ok (.return_, 1) := by decide +kernel
theorem dJ5_append_cf1ce_0 : decode cJ5_append_cf1ce 0 = .ok (.aload_n 1, 1) := by decide +kernel
theorem dJ5_append_cf1ce_1 : decode cJ5_append_cf1ce 1 = .ok (.ifnonnull 8, 3) := by decide +kernel
theorem dJ5_append_cf1ce_4 : decode cJ5_append_cf1ce 4 = .ok (.aload_n 0, 1) := by decide +kernel
theorem dJ5_append_cf1ce_5 : decode cJ5_append_cf1ce 5 = .ok (.invokevirtual 204, 3) := by decide +kernel
theorem dJ5_append_cf1ce_8 : decode cJ5_append_cf1ce 8 = .ok (.areturn, 1) := by decide +kernel
theorem dJ5_append_cf1ce_9 : decode cJ5_append_cf1ce 9 = .ok (.aload_n 1, 1) := by decide +kernel
theorem dJ5_append_cf1ce_10 : decode cJ5_append_cf1ce 10 = .ok (.invokevirtual 32, 3) := by decide +kernel
theorem dJ5_append_cf1ce_13 : decode cJ5_append_cf1ce 13 = .ok (.istore_n 2, 1) := by decide +kernel
theorem dJ5_append_cf1ce_14 : decode cJ5_append_cf1ce 14 = .ok (.aload_n 0, 1) := by decide +kernel
theorem dJ5_append_cf1ce_15 : decode cJ5_append_cf1ce 15 = .ok (.aload_n 0, 1) := by decide +kernel
theorem dJ5_append_cf1ce_16 : decode cJ5_append_cf1ce 16 = .ok (.getfield 79, 3) := by decide +kernel
theorem dJ5_append_cf1ce_19 : decode cJ5_append_cf1ce 19 = .ok (.iload_n 2, 1) := by decide +kernel
theorem dJ5_append_cf1ce_20 : decode cJ5_append_cf1ce 20 = .ok (.iadd, 1) := by decide +kernel
theorem dJ5_append_cf1ce_21 : decode cJ5_append_cf1ce 21 = .ok (.invokevirtual 100, 3) := by decide +kernel
theorem dJ5_append_cf1ce_24 : decode cJ5_append_cf1ce 24 = .ok (.aload_n 0, 1) := by decide +kernel
theorem dJ5_append_cf1ce_25 : decode cJ5_append_cf1ce 25 = .ok (.aload_n 0, 1) := by decide +kernel
theorem dJ5_append_cf1ce_26 : decode cJ5_append_cf1ce 26 = .ok (.getfield 79, 3) := by decide +kernel
theorem dJ5_append_cf1ce_29 : decode cJ5_append_cf1ce 29 = .ok (.aload_n 1, 1) := by decide +kernel
theorem dJ5_append_cf1ce_30 : decode cJ5_append_cf1ce 30 = .ok (.invokevirtual 208, 3) := by decide +kernel
theorem dJ5_append_cf1ce_33 : decode cJ5_append_cf1ce 33 = .ok (.aload_n 0, 1) := by decide +kernel
theorem dJ5_append_cf1ce_34 : decode cJ5_append_cf1ce 34 = .ok (.dup, 1) := by decide +kernel
theorem dJ5_append_cf1ce_35 : decode cJ5_append_cf1ce 35 = .ok (.getfield 79, 3) := by decide +kernel
theorem dJ5_append_cf1ce_38 : decode cJ5_append_cf1ce 38 = .ok (.iload_n 2, 1) := by decide +kernel
theorem dJ5_append_cf1ce_39 : decode cJ5_append_cf1ce 39 = .ok (.iadd, 1) := by decide +kernel
theorem dJ5_append_cf1ce_40 : decode cJ5_append_cf1ce 40 = .ok (.putfield 79, 3) := by decide +kernel
theorem dJ5_append_cf1ce_43 : decode cJ5_append_cf1ce 43 = .ok (.aload_n 0, 1) := by decide +kernel
theorem dJ5_append_cf1ce_44 : decode cJ5_append_cf1ce 44 = .ok (.areturn, 1) := by decide +kernel
theorem dJ5_appendNull_278bc_0 : decode cJ5_appendNull_278bc 0 = .ok (.aload_n 0, 1) := by decide +kernel
theorem dJ5_appendNull_278bc_1 : decode cJ5_appendNull_278bc 1 = .ok (.aload_n 0, 1) := by decide +kernel
theorem dJ5_appendNull_278bc_2 : decode cJ5_appendNull_278bc 2 = .ok (.getfield 79, 3) := by decide +kernel
theorem dJ5_appendNull_278bc_5 : decode cJ5_appendNull_278bc 5 = .ok (.iconst 4, 1) := by decide +kernel
theorem dJ5_appendNull_278bc_6 : decode cJ5_appendNull_278bc 6 = .ok (.iadd, 1) := by decide +kernel
theorem dJ5_appendNull_278bc_7 : decode cJ5_appendNull_278bc 7 = .ok (.invokevirtual 100, 3) := by decide +kernel
theorem dJ5_appendNull_278bc_10 : decode cJ5_appendNull_278bc 10 = .ok (.aload_n 0, 1) := by decide +kernel
theorem dJ5_appendNull_278bc_11 : decode cJ5_appendNull_278bc 11 = .ok (.getfield 79, 3) := by decide +kernel
theorem dJ5_appendNull_278bc_14 : decode cJ5_appendNull_278bc 14 = .ok (.istore_n 1, 1) := by decide +kernel
theorem dJ5_appendNull_278bc_15 : decode cJ5_appendNull_278bc 15 = .ok (.aload_n 0, 1) := by decide +kernel
theorem dJ5_appendNull_278bc_16 : decode cJ5_appendNull_278bc 16 = .ok (.getfield 15, 3) := by decide +kernel
theorem dJ5_appendNull_278bc_19 : decode cJ5_appendNull_278bc 19 = .ok (.astore_n 2, 1) := by decide +kernel
theorem dJ5_appendNull_278bc_20 : decode cJ5_appendNull_278bc 20 = .ok (.aload_n 0, 1) := by decide +kernel
theorem dJ5_appendNull_278bc_21 : decode cJ5_appendNull_278bc 21 = .ok (.invokevirtual 83, 3) := by decide +kernel
theorem dJ5_appendNull_278bc_24 : decode cJ5_appendNull_278bc 24 = .ok (.ifCond .eq 38, 3) := by decide +kernel
theorem dJ5_appendNull_278bc_27 : decode cJ5_appendNull_278bc 27 = .ok (.aload_n 2, 1) := by decide +kernel
theorem dJ5_appendNull_278bc_28 : decode cJ5_appendNull_278bc 28 = .ok (.iload_n 1, 1) := by decide +kernel
theorem dJ5_appendNull_278bc_29 : decode cJ5_appendNull_278bc 29 = .ok (.iinc 1 1, 3) := by decide +kernel
theorem dJ5_appendNull_278bc_32 : decode cJ5_appendNull_278bc 32 = .ok (.bipush 110, 2) := by decide +kernel
theorem dJ5_appendNull_278bc_34 : decode cJ5_appendNull_278bc 34 = .ok (.bastore, 1) := by decide +kernel
theorem dJ5_appendNull_278bc_35 : decode cJ5_appendNull_278bc 35 = .ok (.aload_n 2, 1) := by decide +kernel
theorem dJ5_appendNull_278bc_36 : decode cJ5_appendNull_278bc 36 = .ok (.iload_n 1, 1) := by decide +kernel
theorem dJ5_appendNull_278bc_37 : decode cJ5_appendNull_278bc 37 = .ok (.iinc 1 1, 3) := by decide +kernel
theorem dJ5_appendNull_278bc_40 : decode cJ5_appendNull_278bc 40 = .ok (.bipush 117, 2) := by decide +kernel
theorem dJ5_appendNull_278bc_42 : decode cJ5_appendNull_278bc 42 = .ok (.bastore, 1) := by decide +kernel
theorem dJ5_appendNull_278bc_43 : decode cJ5_appendNull_278bc 43 = .ok (.aload_n 2, 1) := by decide +kernel
theorem dJ5_appendNull_278bc_44 : decode cJ5_appendNull_278bc 44 = .ok (.iload_n 1, 1) := by decide +kernel
theorem dJ5_appendNull_278bc_45 : decode cJ5_appendNull_278bc 45 = .ok (.iinc 1 1, 3) := by decide +kernel
theorem dJ5_appendNull_278bc_48 : decode cJ5_appendNull_278bc 48 = .ok (.bipush 108, 2) := by decide +kernel
theorem dJ5_appendNull_278bc_50 : decode cJ5_appendNull_278bc 50 = .ok (.bastore, 1) := by decide +kernel
theorem dJ5_appendNull_278bc_51 : decode cJ5_appendNull_278bc 51 = .ok (.aload_n 2, 1) := by decide +kernel
theorem dJ5_appendNull_278bc_52 : decode cJ5_appendNull_278bc 52 = .ok (.iload_n 1, 1) := by decide +kernel
theorem dJ5_appendNull_278bc_53 : decode cJ5_appendNull_278bc 53 = .ok (.iinc 1 1, 3) := by decide +kernel
theorem dJ5_appendNull_278bc_56 : decode cJ5_appendNull_278bc 56 = .ok (.bipush 108, 2) := by decide +kernel
theorem dJ5_appendNull_278bc_58 : decode cJ5_appendNull_278bc 58 = .ok (.bastore, 1) := by decide +kernel
theorem dJ5_appendNull_278bc_59 : decode cJ5_appendNull_278bc 59 = .ok (.goto 17, 3) := by decide +kernel
theorem dJ5_appendNull_278bc_62 : decode cJ5_appendNull_278bc 62 = .ok (.aload_n 2, 1) := by decide +kernel
theorem dJ5_appendNull_278bc_63 : decode cJ5_appendNull_278bc 63 = .ok (.iload_n 1, 1) := by decide +kernel
theorem dJ5_appendNull_278bc_64 : decode cJ5_appendNull_278bc 64 = .ok (.bipush 110, 2) := by decide +kernel
theorem dJ5_appendNull_278bc_66 : decode cJ5_appendNull_278bc 66 = .ok (.bipush 117, 2) := by decide +kernel
theorem dJ5_appendNull_278bc_68 : decode cJ5_appendNull_278bc 68 = .ok (.bipush 108, 2) := by decide +kernel
theorem dJ5_appendNull_278bc_70 : decode cJ5_appendNull_278bc 70 = .ok (.bipush 108, 2) := by decide +kernel
theorem dJ5_appendNull_278bc_72 : decode cJ5_appendNull_278bc 72 = .ok (.invokestatic 226, 3) := by decide +kernel
theorem dJ5_appendNull_278bc_75 : decode cJ5_appendNull_278bc 75 = .ok (.istore_n 1, 1) := by decide +kernel
theorem dJ5_appendNull_278bc_76 : decode cJ5_appendNull_278bc 76 = .ok (.aload_n 0, 1) := by decide +kernel
theorem dJ5_appendNull_278bc_77 : decode cJ5_appendNull_278bc 77 = .ok (.iload_n 1, 1) := by decide +kernel
theorem dJ5_appendNull_278bc_78 : decode cJ5_appendNull_278bc 78 = .ok (.putfield 79, 3) := by decide +kernel
theorem dJ5_appendNull_278bc_81 : decode cJ5_appendNull_278bc 81 = .ok (.aload_n 0, 1) := by decide +kernel
theorem dJ5_appendNull_278bc_82 : decode cJ5_appendNull_278bc 82 = .ok (.areturn, 1) := by decide +kernel
theorem dJ5_append_3fe6f_0 : decode cJ5_append_3fe6f 0 = .ok (.aload_n 0, 1) := by decide +kernel
theorem dJ5_append_3fe6f_1 : decode cJ5_append_3fe6f 1 = .ok (.aload_n 0, 1) := by decide +kernel
theorem dJ5_append_3fe6f_2 : decode cJ5_append_3fe6f 2 = .ok (.getfield 79, 3) := by decide +kernel
theorem dJ5_append_3fe6f_5 : decode cJ5_append_3fe6f 5 = .ok (.iconst 1, 1) := by decide +kernel
theorem dJ5_append_3fe6f_6 : decode cJ5_append_3fe6f 6 = .ok (.iadd, 1) := by decide +kernel
theorem dJ5_append_3fe6f_7 : decode cJ5_append_3fe6f 7 = .ok (.invokevirtual 100, 3) := by decide +kernel
theorem dJ5_append_3fe6f_10 : decode cJ5_append_3fe6f 10 = .ok (.aload_n 0, 1) := by decide +kernel
theorem dJ5_append_3fe6f_11 : decode cJ5_append_3fe6f 11 = .ok (.invokevirtual 83, 3) := by decide +kernel
theorem dJ5_append_3fe6f_14 : decode cJ5_append_3fe6f 14 = .ok (.ifCond .eq 31, 3) := by decide +kernel
theorem dJ5_append_3fe6f_17 : decode cJ5_append_3fe6f 17 = .ok (.iload_n 1, 1) := by decide +kernel
theorem dJ5_append_3fe6f_18 : decode cJ5_append_3fe6f 18 = .ok (.invokestatic 191, 3) := by decide +kernel
theorem dJ5_append_3fe6f_21 : decode cJ5_append_3fe6f 21 = .ok (.ifCond .eq 24, 3) := by decide +kernel
theorem dJ5_append_3fe6f_24 : decode cJ5_append_3fe6f 24 = .ok (.aload_n 0, 1) := by decide +kernel
theorem dJ5_append_3fe6f_25 : decode cJ5_append_3fe6f 25 = .ok (.getfield 15, 3) := by decide +kernel
theorem dJ5_append_3fe6f_28 : decode cJ5_append_3fe6f 28 = .ok (.aload_n 0, 1) := by decide +kernel
theorem dJ5_append_3fe6f_29 : decode cJ5_append_3fe6f 29 = .ok (.dup, 1) := by decide +kernel
theorem dJ5_append_3fe6f_30 : decode cJ5_append_3fe6f 30 = .ok (.getfield 79, 3) := by decide +kernel
theorem dJ5_append_3fe6f_33 : decode cJ5_append_3fe6f 33 = .ok (.dup_x1, 1) := by decide +kernel
theorem dJ5_append_3fe6f_34 : decode cJ5_append_3fe6f 34 = .ok (.iconst 1, 1) := by decide +kernel
theorem dJ5_append_3fe6f_35 : decode cJ5_append_3fe6f 35 = .ok (.iadd, 1) := by decide +kernel
theorem dJ5_append_3fe6f_36 : decode cJ5_append_3fe6f 36 = .ok (.putfield 79, 3) := by decide +kernel
theorem dJ5_append_3fe6f_39 : decode cJ5_append_3fe6f 39 = .ok (.iload_n 1, 1) := by decide +kernel
theorem dJ5_append_3fe6f_40 : decode cJ5_append_3fe6f 40 = .ok (.i2b, 1) := by decide +kernel
theorem dJ5_append_3fe6f_41 : decode cJ5_append_3fe6f 41 = .ok (.bastore, 1) := by decide +kernel
theorem dJ5_append_3fe6f_42 : decode cJ5_append_3fe6f 42 = .ok (.goto 33, 3) := by decide +kernel
theorem dJ5_append_3fe6f_45 : decode cJ5_append_3fe6f 45 = .ok (.aload_n 0, 1) := by decide +kernel
theorem dJ5_append_3fe6f_46 : decode cJ5_append_3fe6f 46 = .ok (.invokevirtual 83, 3) := by decide +kernel
theorem dJ5_append_3fe6f_49 : decode cJ5_append_3fe6f 49 = .ok (.ifCond .eq 7, 3) := by decide +kernel
theorem dJ5_append_3fe6f_52 : decode cJ5_append_3fe6f 52 = .ok (.aload_n 0, 1) := by decide +kernel
theorem dJ5_append_3fe6f_53 : decode cJ5_append_3fe6f 53 = .ok (.invokevirtual 195, 3) := by decide +kernel
theorem dJ5_append_3fe6f_56 : decode cJ5_append_3fe6f 56 = .ok (.aload_n 0, 1) := by decide +kernel
theorem dJ5_append_3fe6f_57 : decode cJ5_append_3fe6f 57 = .ok (.getfield 15, 3) := by decide +kernel
theorem dJ5_append_3fe6f_60 : decode cJ5_append_3fe6f 60 = .ok (.aload_n 0, 1) := by decide +kernel
theorem dJ5_append_3fe6f_61 : decode cJ5_append_3fe6f 61 = .ok (.dup, 1) := by decide +kernel
theorem dJ5_append_3fe6f_62 : decode cJ5_append_3fe6f 62 = .ok (.getfield 79, 3) := by decide +kernel
theorem dJ5_append_3fe6f_65 : decode cJ5_append_3fe6f 65 = .ok (.dup_x1, 1) := by decide +kernel
theorem dJ5_append_3fe6f_66 : decode cJ5_append_3fe6f 66 = .ok (.iconst 1, 1) := by decide +kernel
theorem dJ5_append_3fe6f_67 : decode cJ5_append_3fe6f 67 = .ok (.iadd, 1) := by decide +kernel
theorem dJ5_append_3fe6f_68 : decode cJ5_append_3fe6f 68 = .ok (.putfield 79, 3) := by decide +kernel
theorem dJ5_append_3fe6f_71 : decode cJ5_append_3fe6f 71 = .ok (.iload_n 1, 1) := by decide +kernel
theorem dJ5_append_3fe6f_72 : decode cJ5_append_3fe6f 72 = .ok (.invokestatic 197, 3) := by decide +kernel
theorem dJ5_append_3fe6f_75 : decode cJ5_append_3fe6f 75 = .ok (.aload_n 0, 1) := by decide +kernel
theorem dJ5_append_3fe6f_76 : decode cJ5_append_3fe6f 76 = .ok (.areturn, 1) := by decide +kernel
theorem dJ5_append_c97b9_0 : decode cJ5_append_c97b9 0 = .ok (.aload_n 0, 1) := by decide +kernel
theorem dJ5_append_c97b9_1 : decode cJ5_append_c97b9 1 = .ok (.getfield 79, 3) := by decide +kernel
theorem dJ5_append_c97b9_4 : decode cJ5_append_c97b9 4 = .ok (.istore_n 2, 1) := by decide +kernel
theorem dJ5_append_c97b9_5 : decode cJ5_append_c97b9 5 = .ok (.iload_n 2, 1) := by decide +kernel
theorem dJ5_append_c97b9_6 : decode cJ5_append_c97b9 6 = .ok (.iload_n 1, 1) := by decide +kernel
theorem dJ5_append_c97b9_7 : decode cJ5_append_c97b9 7 = .ok (.invokestatic 245, 3) := by decide +kernel
theorem dJ5_append_c97b9_10 : decode cJ5_append_c97b9 10 = .ok (.iadd, 1) := by decide +kernel
theorem dJ5_append_c97b9_11 : decode cJ5_append_c97b9 11 = .ok (.istore_n 3, 1) := by decide +kernel
theorem dJ5_append_c97b9_12 : decode cJ5_append_c97b9 12 = .ok (.aload_n 0, 1) := by decide +kernel
theorem dJ5_append_c97b9_13 : decode cJ5_append_c97b9 13 = .ok (.iload_n 3, 1) := by decide +kernel
theorem dJ5_append_c97b9_14 : decode cJ5_append_c97b9 14 = .ok (.invokevirtual 100, 3) := by decide +kernel
theorem dJ5_append_c97b9_17 : decode cJ5_append_c97b9 17 = .ok (.aload_n 0, 1) := by decide +kernel
theorem dJ5_append_c97b9_18 : decode cJ5_append_c97b9 18 = .ok (.invokevirtual 83, 3) := by decide +kernel
theorem dJ5_append_c97b9_21 : decode cJ5_append_c97b9 21 = .ok (.ifCond .eq 16, 3) := by decide +kernel
theorem dJ5_append_c97b9_24 : decode cJ5_append_c97b9 24 = .ok (.iload_n 1, 1) := by decide +kernel
theorem dJ5_append_c97b9_25 : decode cJ5_append_c97b9 25 = .ok (.iload_n 3, 1) := by decide +kernel
theorem dJ5_append_c97b9_26 : decode cJ5_append_c97b9 26 = .ok (.aload_n 0, 1) := by decide +kernel
theorem dJ5_append_c97b9_27 : decode cJ5_append_c97b9 27 = .ok (.getfield 15, 3) := by decide +kernel
theorem dJ5_append_c97b9_30 : decode cJ5_append_c97b9 30 = .ok (.invokestatic 248, 3) := by decide +kernel
theorem dJ5_append_c97b9_33 : decode cJ5_append_c97b9 33 = .ok (.pop, 1) := by decide +kernel
theorem dJ5_append_c97b9_34 : decode cJ5_append_c97b9 34 = .ok (.goto 14, 3) := by decide +kernel
theorem dJ5_append_c97b9_37 : decode cJ5_append_c97b9 37 = .ok (.iload_n 1, 1) := by decide +kernel
theorem dJ5_append_c97b9_38 : decode cJ5_append_c97b9 38 = .ok (.iload_n 2, 1) := by decide +kernel
theorem dJ5_append_c97b9_39 : decode cJ5_append_c97b9 39 = .ok (.iload_n 3, 1) := by decide +kernel
theorem dJ5_append_c97b9_40 : decode cJ5_append_c97b9 40 = .ok (.aload_n 0, 1) := by decide +kernel
theorem dJ5_append_c97b9_41 : decode cJ5_append_c97b9 41 = .ok (.getfield 15, 3) := by decide +kernel
theorem dJ5_append_c97b9_44 : decode cJ5_append_c97b9 44 = .ok (.invokestatic 251, 3) := by decide +kernel
theorem dJ5_append_c97b9_47 : decode cJ5_append_c97b9 47 = .ok (.pop, 1) := by decide +kernel
theorem dJ5_append_c97b9_48 : decode cJ5_append_c97b9 48 = .ok (.aload_n 0, 1) := by decide +kernel
theorem dJ5_append_c97b9_49 : decode cJ5_append_c97b9 49 = .ok (.iload_n 3, 1) := by decide +kernel
theorem dJ5_append_c97b9_50 : decode cJ5_append_c97b9 50 = .ok (.putfield 79, 3) := by decide +kernel
theorem dJ5_append_c97b9_53 : decode cJ5_append_c97b9 53 = .ok (.aload_n 0, 1) := by decide +kernel
theorem dJ5_append_c97b9_54 : decode cJ5_append_c97b9 54 = .ok (.areturn, 1) := by decide +kernel
theorem dJ5_getValue_6d5f1_0 : decode cJ5_getValue_6d5f1 0 = .ok (.aload_n 0, 1) := by decide +kernel
theorem dJ5_getValue_6d5f1_1 : decode cJ5_getValue_6d5f1 1 = .ok (.getfield 15, 3) := by decide +kernel
theorem dJ5_getValue_6d5f1_4 : decode cJ5_getValue_6d5f1 4 = .ok (.areturn, 1) := by decide +kernel
theorem dJ5_isLatin1_aae02_0 : decode cJ5_isLatin1_aae02 0 = .ok (.getstatic 18, 3) := by decide +kernel
theorem dJ5_isLatin1_aae02_3 : decode cJ5_isLatin1_aae02 3 = .ok (.ifCond .eq 14, 3) := by decide +kernel
theorem dJ5_isLatin1_aae02_6 : decode cJ5_isLatin1_aae02 6 = .ok (.aload_n 0, 1) := by decide +kernel
theorem dJ5_isLatin1_aae02_7 : decode cJ5_isLatin1_aae02 7 = .ok (.getfield 22, 3) := by decide +kernel
theorem dJ5_isLatin1_aae02_10 : decode cJ5_isLatin1_aae02 10 = .ok (.ifCond .ne 7, 3) := by decide +kernel
theorem dJ5_isLatin1_aae02_13 : decode cJ5_isLatin1_aae02 13 = .ok (.iconst 1, 1) := by decide +kernel
theorem dJ5_isLatin1_aae02_14 : decode cJ5_isLatin1_aae02 14 = .ok (.goto 4, 3) := by decide +kernel
theorem dJ5_isLatin1_aae02_17 : decode cJ5_isLatin1_aae02 17 = .ok (.iconst 0, 1) := by decide +kernel
theorem dJ5_isLatin1_aae02_18 : decode cJ5_isLatin1_aae02 18 = .ok (.ireturn, 1) := by decide +kernel
theorem dJ5_inflateIfNeededFor_a7421_0 : decode cJ5_inflateIfNeededFor_a7421 0 = .ok (.getstatic 18, 3) := by decide +kernel
theorem dJ5_inflateIfNeededFor_a7421_3 : decode cJ5_inflateIfNeededFor_a7421 3 = .ok (.ifCond .eq 18, 3) := by decide +kernel
theorem dJ5_inflateIfNeededFor_a7421_6 : decode cJ5_inflateIfNeededFor_a7421 6 = .ok (.aload_n 0, 1) := by decide +kernel
theorem dJ5_inflateIfNeededFor_a7421_7 : decode cJ5_inflateIfNeededFor_a7421 7 = .ok (.getfield 22, 3) := by decide +kernel
theorem dJ5_inflateIfNeededFor_a7421_10 : decode cJ5_inflateIfNeededFor_a7421 10 = .ok (.aload_n 1, 1) := by decide +kernel
theorem dJ5_inflateIfNeededFor_a7421_11 : decode cJ5_inflateIfNeededFor_a7421 11 = .ok (.invokevirtual 40, 3) := by decide +kernel
theorem dJ5_inflateIfNeededFor_a7421_14 : decode cJ5_inflateIfNeededFor_a7421 14 = .ok (.if_icmp .eq 7, 3) := by decide +kernel
theorem dJ5_inflateIfNeededFor_a7421_17 : decode cJ5_inflateIfNeededFor_a7421 17 = .ok (.aload_n 0, 1) := by decide +kernel
theorem dJ5_inflateIfNeededFor_a7421_18 : decode cJ5_inflateIfNeededFor_a7421 18 = .ok (.invokevirtual 195, 3) := by decide +kernel
theorem dJ5_inflateIfNeededFor_a7421_21 : decode cJ5_inflateIfNeededFor_a7421 21 = .ok (.return_, 1) := by decide +kernel
theorem dJ5_putStringAt_47b60_0 : decode cJ5_putStringAt_47b60 0 = .ok (.aload_n 0, 1) := by decide +kernel
theorem dJ5_putStringAt_47b60_1 : decode cJ5_putStringAt_47b60 1 = .ok (.aload_n 2, 1) := by decide +kernel
theorem dJ5_putStringAt_47b60_2 : decode cJ5_putStringAt_47b60 2 = .ok (.invokevirtual 397, 3) := by decide +kernel
theorem dJ5_putStringAt_47b60_5 : decode cJ5_putStringAt_47b60 5 = .ok (.aload_n 2, 1) := by decide +kernel
theorem dJ5_putStringAt_47b60_6 : decode cJ5_putStringAt_47b60 6 = .ok (.aload_n 0, 1) := by decide +kernel
theorem dJ5_putStringAt_47b60_7 : decode cJ5_putStringAt_47b60 7 = .ok (.getfield 15, 3) := by decide +kernel
theorem dJ5_putStringAt_47b60_10 : decode cJ5_putStringAt_47b60 10 = .ok (.iload_n 1, 1) := by decide +kernel
theorem dJ5_putStringAt_47b60_11 : decode cJ5_putStringAt_47b60 11 = .ok (.aload_n 0, 1) := by decide +kernel
theorem dJ5_putStringAt_47b60_12 : decode cJ5_putStringAt_47b60 12 = .ok (.getfield 22, 3) := by decide +kernel
theorem dJ5_putStringAt_47b60_15 : decode cJ5_putStringAt_47b60 15 = .ok (.invokevirtual 399, 3) := by decide +kernel
theorem dJ5_putStringAt_47b60_18 : decode cJ5_putStringAt_47b60 18 = .ok (.return_, 1) := by decide +kernel
theorem dJ6_getChars_ba4f3_0 : decode cJ6_getChars_ba4f3 0 = .ok (.iload_n 1, 1) := by decide +kernel
theorem dJ6_getChars_ba4f3_1 : decode cJ6_getChars_ba4f3 1 = .ok (.istore 5, 2) := by decide +kernel
theorem dJ6_getChars_ba4f3_3 : decode cJ6_getChars_ba4f3 3 = .ok (.iload_n 0, 1) := by decide +kernel
theorem dJ6_getChars_ba4f3_4 : decode cJ6_getChars_ba4f3 4 = .ok (.ifCond .ge 7, 3) := by decide +kernel
theorem dJ6_getChars_ba4f3_7 : decode cJ6_getChars_ba4f3 7 = .ok (.iconst 1, 1) := by decide +kernel
theorem dJ6_getChars_ba4f3_8 : decode cJ6_getChars_ba4f3 8 = .ok (.goto 4, 3) := by decide +kernel
theorem dJ6_getChars_ba4f3_11 : decode cJ6_getChars_ba4f3 11 = .ok (.iconst 0, 1) := by decide +kernel
theorem dJ6_getChars_ba4f3_12 : decode cJ6_getChars_ba4f3 12 = .ok (.istore 6, 2) := by decide +kernel
theorem dJ6_getChars_ba4f3_14 : decode cJ6_getChars_ba4f3 14 = .ok (.iload 6, 2) := by decide +kernel
theorem dJ6_getChars_ba4f3_16 : decode cJ6_getChars_ba4f3 16 = .ok (.ifCond .ne 6, 3) := by decide +kernel
theorem dJ6_getChars_ba4f3_19 : decode cJ6_getChars_ba4f3 19 = .ok (.iload_n 0, 1) := by decide +kernel
theorem dJ6_getChars_ba4f3_20 : decode cJ6_getChars_ba4f3 20 = .ok (.ineg, 1) := by decide +kernel
theorem dJ6_getChars_ba4f3_21 : decode cJ6_getChars_ba4f3 21 = .ok (.istore_n 0, 1) := by decide +kernel
theorem dJ6_getChars_ba4f3_22 : decode cJ6_getChars_ba4f3 22 = .ok (.iload_n 0, 1) := by decide +kernel
theorem dJ6_getChars_ba4f3_23 : decode cJ6_getChars_ba4f3 23 = .ok (.bipush (-100), 2) := by decide +kernel
theorem dJ6_getChars_ba4f3_25 : decode cJ6_getChars_ba4f3 25 = .ok (.if_icmp .gt 47, 3) := by decide +kernel
theorem dJ6_getChars_ba4f3_28 : decode cJ6_getChars_ba4f3 28 = .ok (.iload_n 0, 1) := by decide +kernel
theorem dJ6_getChars_ba4f3_29 : decode cJ6_getChars_ba4f3 29 = .ok (.bipush 100, 2) := by decide +kernel
theorem dJ6_getChars_ba4f3_31 : decode cJ6_getChars_ba4f3 31 = .ok (.idiv, 1) := by decide +kernel
theorem dJ6_getChars_ba4f3_32 : decode cJ6_getChars_ba4f3 32 = .ok (.istore_n 3, 1) := by decide +kernel
theorem dJ6_getChars_ba4f3_33 : decode cJ6_getChars_ba4f3 33 = .ok (.iload_n 3, 1) := by decide +kernel
theorem dJ6_getChars_ba4f3_34 : decode cJ6_getChars_ba4f3 34 = .ok (.bipush 100, 2) := by decide +kernel
theorem dJ6_getChars_ba4f3_36 : decode cJ6_getChars_ba4f3 36 = .ok (.imul, 1) := by decide +kernel
theorem dJ6_getChars_ba4f3_37 : decode cJ6_getChars_ba4f3 37 = .ok (.iload_n 0, 1) := by decide +kernel
theorem dJ6_getChars_ba4f3_38 : decode cJ6_getChars_ba4f3 38 = .ok (.isub, 1) := by decide +kernel
theorem dJ6_getChars_ba4f3_39 : decode cJ6_getChars_ba4f3 39 = .ok (.istore 4, 2) := by decide +kernel
theorem dJ6_getChars_ba4f3_41 : decode cJ6_getChars_ba4f3 41 = .ok (.iload_n 3, 1) := by decide +kernel
theorem dJ6_getChars_ba4f3_42 : decode cJ6_getChars_ba4f3 42 = .ok (.istore_n 0, 1) := by decide +kernel
theorem dJ6_getChars_ba4f3_43 : decode cJ6_getChars_ba4f3 43 = .ok (.aload_n 2, 1) := by decide +kernel
theorem dJ6_getChars_ba4f3_44 : decode cJ6_getChars_ba4f3 44 = .ok (.iinc 5 (-1), 3) := by decide +kernel
theorem dJ6_getChars_ba4f3_47 : decode cJ6_getChars_ba4f3 47 = .ok (.iload 5, 2) := by decide +kernel
theorem dJ6_getChars_ba4f3_49 : decode cJ6_getChars_ba4f3 49 = .ok (.getstatic 83, 3) := by decide +kernel
theorem dJ6_getChars_ba4f3_52 : decode cJ6_getChars_ba4f3 52 = .ok (.iload 4, 2) := by decide +kernel
theorem dJ6_getChars_ba4f3_54 : decode cJ6_getChars_ba4f3 54 = .ok (.baload, 1) := by decide +kernel
theorem dJ6_getChars_ba4f3_55 : decode cJ6_getChars_ba4f3 55 = .ok (.bastore, 1) := by decide +kernel
theorem dJ6_getChars_ba4f3_56 : decode cJ6_getChars_ba4f3 56 = .ok (.aload_n 2, 1) := by decide +kernel
theorem dJ6_getChars_ba4f3_57 : decode cJ6_getChars_ba4f3 57 = .ok (.iinc 5 (-1), 3) := by decide +kernel
theorem dJ6_getChars_ba4f3_60 : decode cJ6_getChars_ba4f3 60 = .ok (.iload 5, 2) := by decide +kernel
theorem dJ6_getChars_ba4f3_62 : decode cJ6_getChars_ba4f3 62 = .ok (.getstatic 87, 3) := by decide +kernel
theorem dJ6_getChars_ba4f3_65 : decode cJ6_getChars_ba4f3 65 = .ok (.iload 4, 2) := by decide +kernel
theorem dJ6_getChars_ba4f3_67 : decode cJ6_getChars_ba4f3 67 = .ok (.baload, 1) := by decide +kernel
theorem dJ6_getChars_ba4f3_68 : decode cJ6_getChars_ba4f3 68 = .ok (.bastore, 1) := by decide +kernel
theorem dJ6_getChars_ba4f3_69 : decode cJ6_getChars_ba4f3 69 = .ok (.goto (-47), 3) := by decide +kernel
theorem dJ6_getChars_ba4f3_72 : decode cJ6_getChars_ba4f3 72 = .ok (.aload_n 2, 1) := by decide +kernel
theorem dJ6_getChars_ba4f3_73 : decode cJ6_getChars_ba4f3 73 = .ok (.iinc 5 (-1), 3) := by decide +kernel
theorem dJ6_getChars_ba4f3_76 : decode cJ6_getChars_ba4f3 76 = .ok (.iload 5, 2) := by decide +kernel
theorem dJ6_getChars_ba4f3_78 : decode cJ6_getChars_ba4f3 78 = .ok (.getstatic 83, 3) := by decide +kernel
theorem dJ6_getChars_ba4f3_81 : decode cJ6_getChars_ba4f3 81 = .ok (.iload_n 0, 1) := by decide +kernel
theorem dJ6_getChars_ba4f3_82 : decode cJ6_getChars_ba4f3 82 = .ok (.ineg, 1) := by decide +kernel
theorem dJ6_getChars_ba4f3_83 : decode cJ6_getChars_ba4f3 83 = .ok (.baload, 1) := by decide +kernel
theorem dJ6_getChars_ba4f3_84 : decode cJ6_getChars_ba4f3 84 = .ok (.bastore, 1) := by decide +kernel
theorem dJ6_getChars_ba4f3_85 : decode cJ6_getChars_ba4f3 85 = .ok (.iload_n 0, 1) := by decide +kernel
theorem dJ6_getChars_ba4f3_86 : decode cJ6_getChars_ba4f3 86 = .ok (.bipush (-9), 2) := by decide +kernel
theorem dJ6_getChars_ba4f3_88 : decode cJ6_getChars_ba4f3 88 = .ok (.if_icmp .ge 16, 3) := by decide +kernel
theorem dJ6_getChars_ba4f3_91 : decode cJ6_getChars_ba4f3 91 = .ok (.aload_n 2, 1) := by decide +kernel
theorem dJ6_getChars_ba4f3_92 : decode cJ6_getChars_ba4f3 92 = .ok (.iinc 5 (-1), 3) := by decide +kernel
theorem dJ6_getChars_ba4f3_95 : decode cJ6_getChars_ba4f3 95 = .ok (.iload 5, 2) := by decide +kernel
theorem dJ6_getChars_ba4f3_97 : decode cJ6_getChars_ba4f3 97 = .ok (.getstatic 87, 3) := by decide +kernel
theorem dJ6_getChars_ba4f3_100 : decode cJ6_getChars_ba4f3 100 = .ok (.iload_n 0, 1) := by decide +kernel
theorem dJ6_getChars_ba4f3_101 : decode cJ6_getChars_ba4f3 101 = .ok (.ineg, 1) := by decide +kernel
theorem dJ6_getChars_ba4f3_102 : decode cJ6_getChars_ba4f3 102 = .ok (.baload, 1) := by decide +kernel
theorem dJ6_getChars_ba4f3_103 : decode cJ6_getChars_ba4f3 103 = .ok (.bastore, 1) := by decide +kernel
theorem dJ6_getChars_ba4f3_104 : decode cJ6_getChars_ba4f3 104 = .ok (.iload 6, 2) := by decide +kernel
theorem dJ6_getChars_ba4f3_106 : decode cJ6_getChars_ba4f3 106 = .ok (.ifCond .eq 12, 3) := by decide +kernel
theorem dJ6_getChars_ba4f3_109 : decode cJ6_getChars_ba4f3 109 = .ok (.aload_n 2, 1) := by decide +kernel
theorem dJ6_getChars_ba4f3_110 : decode cJ6_getChars_ba4f3 110 = .ok (.iinc 5 (-1), 3) := by decide +kernel
theorem dJ6_getChars_ba4f3_113 : decode cJ6_getChars_ba4f3 113 = .ok (.iload 5, 2) := by decide +kernel
theorem dJ6_getChars_ba4f3_115 : decode cJ6_getChars_ba4f3 115 = .ok (.bipush 45, 2) := by decide +kernel
theorem dJ6_getChars_ba4f3_117 : decode cJ6_getChars_ba4f3 117 = .ok (.bastore, 1) := by decide +kernel
theorem dJ6_getChars_ba4f3_118 : decode cJ6_getChars_ba4f3 118 = .ok (.iload 5, 2) := by decide +kernel
theorem dJ6_getChars_ba4f3_120 : decode cJ6_getChars_ba4f3 120 = .ok (.ireturn, 1) := by decide +kernel
theorem dJ6_stringSize_0f7a4_0 : decode cJ6_stringSize_0f7a4 0 = .ok (.iconst 1, 1) := by decide +kernel
theorem dJ6_stringSize_0f7a4_1 : decode cJ6_stringSize_0f7a4 1 = .ok (.istore_n 1, 1) := by decide +kernel
theorem dJ6_stringSize_0f7a4_2 : decode cJ6_stringSize_0f7a4 2 = .ok (.iload_n 0, 1) := by decide +kernel
theorem dJ6_stringSize_0f7a4_3 : decode cJ6_stringSize_0f7a4 3 = .ok (.ifCond .lt 8, 3) := by decide +kernel
theorem dJ6_stringSize_0f7a4_6 : decode cJ6_stringSize_0f7a4 6 = .ok (.iconst 0, 1) := by decide +kernel
theorem dJ6_stringSize_0f7a4_7 : decode cJ6_stringSize_0f7a4 7 = .ok (.istore_n 1, 1) := by decide +kernel
theorem dJ6_stringSize_0f7a4_8 : decode cJ6_stringSize_0f7a4 8 = .ok (.iload_n 0, 1) := by decide +kernel
theorem dJ6_stringSize_0f7a4_9 : decode cJ6_stringSize_0f7a4 9 = .ok (.ineg, 1) := by decide +kernel
theorem dJ6_stringSize_0f7a4_10 : decode cJ6_stringSize_0f7a4 10 = .ok (.istore_n 0, 1) := by decide +kernel
theorem dJ6_stringSize_0f7a4_11 : decode cJ6_stringSize_0f7a4 11 = .ok (.bipush (-10), 2) := by decide +kernel
theorem dJ6_stringSize_0f7a4_13 : decode cJ6_stringSize_0f7a4 13 = .ok (.istore_n 2, 1) := by decide +kernel
theorem dJ6_stringSize_0f7a4_14 : decode cJ6_stringSize_0f7a4 14 = .ok (.iconst 1, 1) := by decide +kernel
theorem dJ6_stringSize_0f7a4_15 : decode cJ6_stringSize_0f7a4 15 = .ok (.istore_n 3, 1) := by decide +kernel
theorem dJ6_stringSize_0f7a4_16 : decode cJ6_stringSize_0f7a4 16 = .ok (.iload_n 3, 1) := by decide +kernel
theorem dJ6_stringSize_0f7a4_17 : decode cJ6_stringSize_0f7a4 17 = .ok (.bipush 10, 2) := by decide +kernel
theorem dJ6_stringSize_0f7a4_19 : decode cJ6_stringSize_0f7a4 19 = .ok (.if_icmp .ge 23, 3) := by decide +kernel
theorem dJ6_stringSize_0f7a4_22 : decode cJ6_stringSize_0f7a4 22 = .ok (.iload_n 0, 1) := by decide +kernel
theorem dJ6_stringSize_0f7a4_23 : decode cJ6_stringSize_0f7a4 23 = .ok (.iload_n 2, 1) := by decide +kernel
theorem dJ6_stringSize_0f7a4_24 : decode cJ6_stringSize_0f7a4 24 = .ok (.if_icmp .le 7, 3) := by decide +kernel
theorem dJ6_stringSize_0f7a4_27 : decode cJ6_stringSize_0f7a4 27 = .ok (.iload_n 3, 1) := by decide +kernel
theorem dJ6_stringSize_0f7a4_28 : decode cJ6_stringSize_0f7a4 28 = .ok (.iload_n 1, 1) := by decide +kernel
theorem dJ6_stringSize_0f7a4_29 : decode cJ6_stringSize_0f7a4 29 = .ok (.iadd, 1) := by decide +kernel
theorem dJ6_stringSize_0f7a4_30 : decode cJ6_stringSize_0f7a4 30 = .ok (.ireturn, 1) := by decide +kernel
theorem dJ6_stringSize_0f7a4_31 : decode cJ6_stringSize_0f7a4 31 = .ok (.bipush 10, 2) := by decide +kernel
theorem dJ6_stringSize_0f7a4_33 : decode cJ6_stringSize_0f7a4 33 = .ok (.iload_n 2, 1) := by decide +kernel
theorem dJ6_stringSize_0f7a4_34 : decode cJ6_stringSize_0f7a4 34 = .ok (.imul, 1) := by decide +kernel
theorem dJ6_stringSize_0f7a4_35 : decode cJ6_stringSize_0f7a4 35 = .ok (.istore_n 2, 1) := by decide +kernel
theorem dJ6_stringSize_0f7a4_36 : decode cJ6_stringSize_0f7a4 36 = .ok (.iinc 3 1, 3) := by decide +kernel
theorem dJ6_stringSize_0f7a4_39 : decode cJ6_stringSize_0f7a4 39 = .ok (.goto (-23), 3) := by decide +kernel
theorem dJ6_stringSize_0f7a4_42 : decode cJ6_stringSize_0f7a4 42 = .ok (.bipush 10, 2) := by decide +kernel
theorem dJ6_stringSize_0f7a4_44 : decode cJ6_stringSize_0f7a4 44 = .ok (.iload_n 1, 1) := by decide +kernel
theorem dJ6_stringSize_0f7a4_45 : decode cJ6_stringSize_0f7a4 45 = .ok (.iadd, 1) := by decide +kernel
theorem dJ6_stringSize_0f7a4_46 : decode cJ6_stringSize_0f7a4 46 = .ok (.ireturn, 1) := by decide +kernel
theorem dJ8_newLength_cabcc_0 : decode cJ8_newLength_cabcc 0 = .ok (.iload_n 0, 1) := by decide +kernel
theorem dJ8_newLength_cabcc_1 : decode cJ8_newLength_cabcc 1 = .ok (.iload_n 1, 1) := by decide +kernel
theorem dJ8_newLength_cabcc_2 : decode cJ8_newLength_cabcc 2 = .ok (.iload_n 2, 1) := by decide +kernel
theorem dJ8_newLength_cabcc_3 : decode cJ8_newLength_cabcc 3 = .ok (.invokestatic 194, 3) := by decide +kernel
theorem dJ8_newLength_cabcc_6 : decode cJ8_newLength_cabcc 6 = .ok (.iadd, 1) := by decide +kernel
theorem dJ8_newLength_cabcc_7 : decode cJ8_newLength_cabcc 7 = .ok (.istore_n 3, 1) := by decide +kernel
theorem dJ8_newLength_cabcc_8 : decode cJ8_newLength_cabcc 8 = .ok (.iconst 0, 1) := by decide +kernel
theorem dJ8_newLength_cabcc_9 : decode cJ8_newLength_cabcc 9 = .ok (.iload_n 3, 1) := by decide +kernel
theorem dJ8_newLength_cabcc_10 : decode cJ8_newLength_cabcc 10 = .ok (.if_icmp .ge 11, 3) := by decide +kernel
theorem dJ8_newLength_cabcc_13 : decode cJ8_newLength_cabcc 13 = .ok (.iload_n 3, 1) := by decide +kernel
theorem dJ8_newLength_cabcc_14 : decode cJ8_newLength_cabcc 14 = .ok (.ldc 200, 2) := by decide +kernel
theorem dJ8_newLength_cabcc_16 : decode cJ8_newLength_cabcc 16 = .ok (.if_icmp .gt 5, 3) := by decide +kernel
theorem dJ8_newLength_cabcc_19 : decode cJ8_newLength_cabcc 19 = .ok (.iload_n 3, 1) := by decide +kernel
theorem dJ8_newLength_cabcc_20 : decode cJ8_newLength_cabcc 20 = .ok (.ireturn, 1) := by decide +kernel
theorem dJ8_newLength_cabcc_21 : decode cJ8_newLength_cabcc 21 = .ok (.iload_n 0, 1) := by decide +kernel
theorem dJ8_newLength_cabcc_22 : decode cJ8_newLength_cabcc 22 = .ok (.iload_n 1, 1) := by decide +kernel
theorem dJ8_newLength_cabcc_23 : decode cJ8_newLength_cabcc 23 = .ok (.invokestatic 201, 3) := by decide +kernel
theorem dJ8_newLength_cabcc_26 : decode cJ8_newLength_cabcc 26 = .ok (.ireturn, 1) := by decide +kernel
theorem dJ8_hugeLength_7cf53_0 : decode cJ8_hugeLength_7cf53 0 = .ok (.iload_n 0, 1) := by decide +kernel
theorem dJ8_hugeLength_7cf53_1 : decode cJ8_hugeLength_7cf53 1 = .ok (.iload_n 1, 1) := by decide +kernel
theorem dJ8_hugeLength_7cf53_2 : decode cJ8_hugeLength_7cf53 2 = .ok (.iadd, 1) := by decide +kernel
theorem dJ8_hugeLength_7cf53_3 : decode cJ8_hugeLength_7cf53 3 = .ok (.istore_n 2, 1) := by decide +kernel
theorem dJ8_hugeLength_7cf53_4 : decode cJ8_hugeLength_7cf53 4 = .ok (.iload_n 2, 1) := by decide +kernel
theorem dJ8_hugeLength_7cf53_5 : decode cJ8_hugeLength_7cf53 5 = .ok (.ifCond .ge 44, 3) := by decide +kernel
theorem dJ8_hugeLength_7cf53_8 : decode cJ8_hugeLength_7cf53 8 = .ok (.new 204, 3) := by decide +kernel
theorem dJ8_hugeLength_7cf53_11 : decode cJ8_hugeLength_7cf53 11 = .ok (.dup, 1) := by decide +kernel
theorem dJ8_hugeLength_7cf53_12 : decode cJ8_hugeLength_7cf53 12 = .ok (.new 89, 3) := by decide +kernel
theorem dJ8_hugeLength_7cf53_15 : decode cJ8_hugeLength_7cf53 15 = .ok (.dup, 1) := by decide +kernel
theorem dJ8_hugeLength_7cf53_16 : decode cJ8_hugeLength_7cf53 16 = .ok (.invokespecial 91, 3) := by decide +kernel
theorem dJ8_hugeLength_7cf53_19 : decode cJ8_hugeLength_7cf53 19 = .ok (.ldc 206, 2) := by decide +kernel
theorem dJ8_hugeLength_7cf53_21 : decode cJ8_hugeLength_7cf53 21 = .ok (.invokevirtual 94, 3) := by decide +kernel
theorem dJ8_hugeLength_7cf53_24 : decode cJ8_hugeLength_7cf53 24 = .ok (.iload_n 0, 1) := by decide +kernel
theorem dJ8_hugeLength_7cf53_25 : decode cJ8_hugeLength_7cf53 25 = .ok (.invokevirtual 98, 3) := by decide +kernel
theorem dJ8_hugeLength_7cf53_28 : decode cJ8_hugeLength_7cf53 28 = .ok (.ldc 208, 2) := by decide +kernel
theorem dJ8_hugeLength_7cf53_30 : decode cJ8_hugeLength_7cf53 30 = .ok (.invokevirtual 94, 3) := by decide +kernel
theorem dJ8_hugeLength_7cf53_33 : decode cJ8_hugeLength_7cf53 33 = .ok (.iload_n 1, 1) := by decide +kernel
theorem dJ8_hugeLength_7cf53_34 : decode cJ8_hugeLength_7cf53 34 = .ok (.invokevirtual 98, 3) := by decide +kernel
theorem dJ8_hugeLength_7cf53_37 : decode cJ8_hugeLength_7cf53 37 = .ok (.ldc 210, 2) := by decide +kernel
theorem dJ8_hugeLength_7cf53_39 : decode cJ8_hugeLength_7cf53 39 = .ok (.invokevirtual 94, 3) := by decide +kernel
theorem dJ8_hugeLength_7cf53_42 : decode cJ8_hugeLength_7cf53 42 = .ok (.invokevirtual 101, 3) := by decide +kernel
theorem dJ8_hugeLength_7cf53_45 : decode cJ8_hugeLength_7cf53 45 = .ok (.invokespecial 212, 3) := by decide +kernel
theorem dJ8_hugeLength_7cf53_48 : decode cJ8_hugeLength_7cf53 48 = .ok (.athrow, 1) := by decide +kernel
theorem dJ8_hugeLength_7cf53_49 : decode cJ8_hugeLength_7cf53 49 = .ok (.iload_n 2, 1) := by decide +kernel
theorem dJ8_hugeLength_7cf53_50 : decode cJ8_hugeLength_7cf53 50 = .ok (.ldc 200, 2) := by decide +kernel
theorem dJ8_hugeLength_7cf53_52 : decode cJ8_hugeLength_7cf53 52 = .ok (.if_icmp .gt 6, 3) := by decide +kernel
theorem dJ8_hugeLength_7cf53_55 : decode cJ8_hugeLength_7cf53 55 = .ok (.ldc 200, 2) := by decide +kernel
theorem dJ8_hugeLength_7cf53_57 : decode cJ8_hugeLength_7cf53 57 = .ok (.ireturn, 1) := by decide +kernel
theorem dJ8_hugeLength_7cf53_58 : decode cJ8_hugeLength_7cf53 58 = .ok (.iload_n 2, 1) := by decide +kernel
theorem dJ8_hugeLength_7cf53_59 : decode cJ8_hugeLength_7cf53 59 = .ok (.ireturn, 1) := by decide +kernel
