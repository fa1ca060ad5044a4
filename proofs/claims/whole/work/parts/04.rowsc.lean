theorem dX4_command_27 : decode cX4_command 27 = .ok (.aload_n 0, 1) := by decide +kernel
theorem dX4_command_28 : decode cX4_command 28 = .ok (.iconst 0, 1) := by decide +kernel
theorem dX4_command_29 : decode cX4_command 29 = .ok (.iconst 5, 1) := by decide +kernel
theorem dX4_command_30 : decode cX4_command 30 = .ok (.iconst 0, 1) := by decide +kernel
theorem dX4_command_31 : decode cX4_command 31 = .ok (.iconst 1, 1) := by decide +kernel
theorem dX4_command_32 : decode cX4_command 32 = .ok (.invokevirtual 71, 3) := by decide +kernel
theorem dX4_command_35 : decode cX4_command 35 = .ok (.istore_n 2, 1) := by decide +kernel
theorem dX4_command_36 : decode cX4_command 36 = .ok (.iload_n 1, 1) := by decide +kernel
theorem dX4_command_37 : decode cX4_command 37 = .ok (.iconst 2, 1) := by decide +kernel
theorem dX4_command_38 : decode cX4_command 38 = .ok (.if_icmp .ne 12, 3) := by decide +kernel
theorem dX4_command_41 : decode cX4_command 41 = .ok (.aload_n 0, 1) := by decide +kernel
theorem dX4_command_42 : decode cX4_command 42 = .ok (.iconst 4, 1) := by decide +kernel
theorem dX4_command_43 : decode cX4_command 43 = .ok (.iconst 5, 1) := by decide +kernel
theorem dX4_command_44 : decode cX4_command 44 = .ok (.iconst 1, 1) := by decide +kernel
theorem dX4_command_45 : decode cX4_command 45 = .ok (.iconst 0, 1) := by decide +kernel
theorem dX4_command_46 : decode cX4_command 46 = .ok (.invokevirtual 71, 3) := by decide +kernel
theorem dX4_command_49 : decode cX4_command 49 = .ok (.istore_n 2, 1) := by decide +kernel
theorem dX4_command_50 : decode cX4_command 50 = .ok (.iload_n 1, 1) := by decide +kernel
theorem dX4_command_51 : decode cX4_command 51 = .ok (.iconst 3, 1) := by decide +kernel
theorem dX4_command_52 : decode cX4_command 52 = .ok (.if_icmp .ne 27, 3) := by decide +kernel
theorem dX4_command_55 : decode cX4_command 55 = .ok (.aload_n 0, 1) := by decide +kernel
theorem dX4_command_56 : decode cX4_command 56 = .ok (.getfield 75, 3) := by decide +kernel
theorem dX4_command_59 : decode cX4_command 59 = .ok (.ifCond .ne 20, 3) := by decide +kernel
theorem dX4_command_62 : decode cX4_command 62 = .ok (.aload_n 0, 1) := by decide +kernel
theorem dX4_command_63 : decode cX4_command 63 = .ok (.iconst 0, 1) := by decide +kernel
theorem dX4_command_64 : decode cX4_command 64 = .ok (.invokevirtual 60, 3) := by decide +kernel
theorem dX4_command_67 : decode cX4_command 67 = .ok (.ifCond .ne 12, 3) := by decide +kernel
theorem dX4_command_70 : decode cX4_command 70 = .ok (.aload_n 0, 1) := by decide +kernel
theorem dX4_command_71 : decode cX4_command 71 = .ok (.iconst 0, 1) := by decide +kernel
theorem dX4_command_72 : decode cX4_command 72 = .ok (.iconst 5, 1) := by decide +kernel
theorem dX4_command_73 : decode cX4_command 73 = .ok (.iconst 3, 1) := by decide +kernel
theorem dX4_command_74 : decode cX4_command 74 = .ok (.iconst 2, 1) := by decide +kernel
theorem dX4_command_75 : decode cX4_command 75 = .ok (.invokevirtual 71, 3) := by decide +kernel
theorem dX4_command_78 : decode cX4_command 78 = .ok (.istore_n 2, 1) := by decide +kernel
theorem dX4_command_79 : decode cX4_command 79 = .ok (.return_, 1) := by decide +kernel
set_option maxRecDepth 20000 in
theorem ggX4_remote_X4_back : GoodIn wsX4_remote wsX4_back := goodIn_r _ [19, 9, 20, 21, 18, 22, 23, 24] (by decide +kernel) (by decide +kernel)
set_option maxRecDepth 20000 in
theorem gX4_remote_X4_back : GoodIn wsX4_remote (va_wsS RX4 85 yX4_back wsX4_back) := goodIn_app (goodIn_of _ (by decide +kernel)) ggX4_remote_X4_back
set_option maxRecDepth 20000 in
theorem ggX4_remote_X4_sign : GoodIn wsX4_remote wsX4_sign := goodIn_r _ [27, 23] (by decide +kernel) (by decide +kernel)
set_option maxRecDepth 20000 in
theorem gX4_remote_X4_sign : GoodIn wsX4_remote (va_wsS RX4 89 yX4_sign wsX4_sign) := goodIn_app (goodIn_of _ (by decide +kernel)) ggX4_remote_X4_sign
set_option maxRecDepth 20000 in
theorem ggX4_remote_X4_command : GoodIn wsX4_remote wsX4_command := goodIn_r _ [31, 32, 33, 34, 35, 18, 36, 37, 38, 39, 40, 41, 42, 43, 44, 45, 46, 47, 48, 49, 50, 51, 52, 53, 54, 55, 56, 57, 58, 59, 60, 61, 62, 63] (by decide +kernel) (by decide +kernel)
set_option maxRecDepth 20000 in
theorem gX4_remote_X4_command : GoodIn wsX4_remote (wsV RX4 95 RX4 yX4_command wsX4_command) := goodIn_app (goodIn_of _ (by decide +kernel)) ggX4_remote_X4_command
theorem dX4_remote_0 : decode cX4_remote 0 = .ok (.aload_n 0, 1) := by decide +kernel
theorem dX4_remote_1 : decode cX4_remote 1 = .ok (.iconst 0, 1) := by decide +kernel
theorem dX4_remote_2 : decode cX4_remote 2 = .ok (.putfield 46, 3) := by decide +kernel
theorem dX4_remote_5 : decode cX4_remote 5 = .ok (.aload_n 0, 1) := by decide +kernel
theorem dX4_remote_6 : decode cX4_remote 6 = .ok (.getfield 79, 3) := by decide +kernel
theorem dX4_remote_9 : decode cX4_remote 9 = .ok (.bipush 16, 2) := by decide +kernel
theorem dX4_remote_11 : decode cX4_remote 11 = .ok (.if_icmp .ge 17, 3) := by decide +kernel
theorem dX4_remote_14 : decode cX4_remote 14 = .ok (.aload_n 0, 1) := by decide +kernel
theorem dX4_remote_15 : decode cX4_remote 15 = .ok (.getfield 36, 3) := by decide +kernel
theorem dX4_remote_18 : decode cX4_remote 18 = .ok (.aload_n 0, 1) := by decide +kernel
theorem dX4_remote_19 : decode cX4_remote 19 = .ok (.getfield 79, 3) := by decide +kernel
theorem dX4_remote_22 : decode cX4_remote 22 = .ok (.iload_n 1, 1) := by decide +kernel
theorem dX4_remote_23 : decode cX4_remote 23 = .ok (.sipush 255, 3) := by decide +kernel
theorem dX4_remote_26 : decode cX4_remote 26 = .ok (.iand, 1) := by decide +kernel
theorem dX4_remote_27 : decode cX4_remote 27 = .ok (.iastore, 1) := by decide +kernel
theorem dX4_remote_28 : decode cX4_remote 28 = .ok (.aload_n 0, 1) := by decide +kernel
theorem dX4_remote_29 : decode cX4_remote 29 = .ok (.dup, 1) := by decide +kernel
theorem dX4_remote_30 : decode cX4_remote 30 = .ok (.getfield 79, 3) := by decide +kernel
theorem dX4_remote_33 : decode cX4_remote 33 = .ok (.iconst 1, 1) := by decide +kernel
theorem dX4_remote_34 : decode cX4_remote 34 = .ok (.iadd, 1) := by decide +kernel
theorem dX4_remote_35 : decode cX4_remote 35 = .ok (.putfield 79, 3) := by decide +kernel
theorem dX4_remote_38 : decode cX4_remote 38 = .ok (.iload_n 2, 1) := by decide +kernel
theorem dX4_remote_39 : decode cX4_remote 39 = .ok (.ifCond .ne 5, 3) := by decide +kernel
theorem dX4_remote_42 : decode cX4_remote 42 = .ok (.iconst 0, 1) := by decide +kernel
theorem dX4_remote_43 : decode cX4_remote 43 = .ok (.ireturn, 1) := by decide +kernel
theorem dX4_remote_44 : decode cX4_remote 44 = .ok (.aload_n 0, 1) := by decide +kernel
theorem dX4_remote_45 : decode cX4_remote 45 = .ok (.aload_n 0, 1) := by decide +kernel
theorem dX4_remote_46 : decode cX4_remote 46 = .ok (.getfield 79, 3) := by decide +kernel
theorem dX4_remote_49 : decode cX4_remote 49 = .ok (.bipush 16, 2) := by decide +kernel
theorem dX4_remote_51 : decode cX4_remote 51 = .ok (.if_icmp .le 8, 3) := by decide +kernel
theorem dX4_remote_54 : decode cX4_remote 54 = .ok (.bipush 16, 2) := by decide +kernel
theorem dX4_remote_56 : decode cX4_remote 56 = .ok (.goto 7, 3) := by decide +kernel
theorem dX4_remote_59 : decode cX4_remote 59 = .ok (.aload_n 0, 1) := by decide +kernel
theorem dX4_remote_60 : decode cX4_remote 60 = .ok (.getfield 79, 3) := by decide +kernel
theorem dX4_remote_63 : decode cX4_remote 63 = .ok (.putfield 82, 3) := by decide +kernel
theorem dX4_remote_66 : decode cX4_remote 66 = .ok (.iconst 0, 1) := by decide +kernel
theorem dX4_remote_67 : decode cX4_remote 67 = .ok (.istore_n 3, 1) := by decide +kernel
theorem dX4_remote_68 : decode cX4_remote 68 = .ok (.iload_n 3, 1) := by decide +kernel
theorem dX4_remote_69 : decode cX4_remote 69 = .ok (.aload_n 0, 1) := by decide +kernel
theorem dX4_remote_70 : decode cX4_remote 70 = .ok (.getfield 82, 3) := by decide +kernel
theorem dX4_remote_73 : decode cX4_remote 73 = .ok (.if_icmp .ge 21, 3) := by decide +kernel
theorem dX4_remote_76 : decode cX4_remote 76 = .ok (.aload_n 0, 1) := by decide +kernel
theorem dX4_remote_77 : decode cX4_remote 77 = .ok (.getfield 39, 3) := by decide +kernel
theorem dX4_remote_80 : decode cX4_remote 80 = .ok (.iload_n 3, 1) := by decide +kernel
theorem dX4_remote_81 : decode cX4_remote 81 = .ok (.aload_n 0, 1) := by decide +kernel
theorem dX4_remote_82 : decode cX4_remote 82 = .ok (.getfield 36, 3) := by decide +kernel
theorem dX4_remote_85 : decode cX4_remote 85 = .ok (.iload_n 3, 1) := by decide +kernel
theorem dX4_remote_86 : decode cX4_remote 86 = .ok (.iaload, 1) := by decide +kernel
theorem dX4_remote_87 : decode cX4_remote 87 = .ok (.iastore, 1) := by decide +kernel
theorem dX4_remote_88 : decode cX4_remote 88 = .ok (.iinc 3 1, 3) := by decide +kernel
theorem dX4_remote_91 : decode cX4_remote 91 = .ok (.goto (-23), 3) := by decide +kernel
theorem dX4_remote_94 : decode cX4_remote 94 = .ok (.aload_n 0, 1) := by decide +kernel
theorem dX4_remote_95 : decode cX4_remote 95 = .ok (.getfield 79, 3) := by decide +kernel
theorem dX4_remote_98 : decode cX4_remote 98 = .ok (.bipush 8, 2) := by decide +kernel
theorem dX4_remote_100 : decode cX4_remote 100 = .ok (.if_icmp .ne 7, 3) := by decide +kernel
theorem dX4_remote_103 : decode cX4_remote 103 = .ok (.iconst 1, 1) := by decide +kernel
theorem dX4_remote_104 : decode cX4_remote 104 = .ok (.goto 4, 3) := by decide +kernel
theorem dX4_remote_107 : decode cX4_remote 107 = .ok (.iconst 0, 1) := by decide +kernel
theorem dX4_remote_108 : decode cX4_remote 108 = .ok (.istore_n 3, 1) := by decide +kernel
theorem dX4_remote_109 : decode cX4_remote 109 = .ok (.aload_n 0, 1) := by decide +kernel
theorem dX4_remote_110 : decode cX4_remote 110 = .ok (.iconst 0, 1) := by decide +kernel
theorem dX4_remote_111 : decode cX4_remote 111 = .ok (.putfield 79, 3) := by decide +kernel
theorem dX4_remote_114 : decode cX4_remote 114 = .ok (.iconst 0, 1) := by decide +kernel
theorem dX4_remote_115 : decode cX4_remote 115 = .ok (.istore 4, 2) := by decide +kernel
theorem dX4_remote_117 : decode cX4_remote 117 = .ok (.iconst 0, 1) := by decide +kernel
theorem dX4_remote_118 : decode cX4_remote 118 = .ok (.istore 5, 2) := by decide +kernel
theorem dX4_remote_120 : decode cX4_remote 120 = .ok (.iload 5, 2) := by decide +kernel
theorem dX4_remote_122 : decode cX4_remote 122 = .ok (.bipush 8, 2) := by decide +kernel
theorem dX4_remote_124 : decode cX4_remote 124 = .ok (.if_icmp .ge 21, 3) := by decide +kernel
theorem dX4_remote_127 : decode cX4_remote 127 = .ok (.iload 4, 2) := by decide +kernel
theorem dX4_remote_129 : decode cX4_remote 129 = .ok (.aload_n 0, 1) := by decide +kernel
theorem dX4_remote_130 : decode cX4_remote 130 = .ok (.getfield 39, 3) := by decide +kernel
theorem dX4_remote_133 : decode cX4_remote 133 = .ok (.iload 5, 2) := by decide +kernel
theorem dX4_remote_135 : decode cX4_remote 135 = .ok (.iaload, 1) := by decide +kernel
theorem dX4_remote_136 : decode cX4_remote 136 = .ok (.ixor, 1) := by decide +kernel
theorem dX4_remote_137 : decode cX4_remote 137 = .ok (.istore 4, 2) := by decide +kernel
theorem dX4_remote_139 : decode cX4_remote 139 = .ok (.iinc 5 1, 3) := by decide +kernel
theorem dX4_remote_142 : decode cX4_remote 142 = .ok (.goto (-22), 3) := by decide +kernel
theorem dX4_remote_145 : decode cX4_remote 145 = .ok (.aload_n 0, 1) := by decide +kernel
theorem dX4_remote_146 : decode cX4_remote 146 = .ok (.getfield 39, 3) := by decide +kernel
theorem dX4_remote_149 : decode cX4_remote 149 = .ok (.iconst 0, 1) := by decide +kernel
theorem dX4_remote_150 : decode cX4_remote 150 = .ok (.iaload, 1) := by decide +kernel
theorem dX4_remote_151 : decode cX4_remote 151 = .ok (.istore 5, 2) := by decide +kernel
theorem dX4_remote_153 : decode cX4_remote 153 = .ok (.iload_n 3, 1) := by decide +kernel
theorem dX4_remote_154 : decode cX4_remote 154 = .ok (.ifCond .eq 43, 3) := by decide +kernel
theorem dX4_remote_157 : decode cX4_remote 157 = .ok (.iload 4, 2) := by decide +kernel
theorem dX4_remote_159 : decode cX4_remote 159 = .ok (.ifCond .ne 38, 3) := by decide +kernel
theorem dX4_remote_162 : decode cX4_remote 162 = .ok (.iload 5, 2) := by decide +kernel
theorem dX4_remote_164 : decode cX4_remote 164 = .ok (.iconst 1, 1) := by decide +kernel
theorem dX4_remote_165 : decode cX4_remote 165 = .ok (.if_icmp .lt 32, 3) := by decide +kernel
theorem dX4_remote_168 : decode cX4_remote 168 = .ok (.iload 5, 2) := by decide +kernel
theorem dX4_remote_170 : decode cX4_remote 170 = .ok (.aload_n 0, 1) := by decide +kernel
theorem dX4_remote_171 : decode cX4_remote 171 = .ok (.getfield 49, 3) := by decide +kernel
theorem dX4_remote_174 : decode cX4_remote 174 = .ok (.if_icmp .gt 23, 3) := by decide +kernel
theorem dX4_remote_177 : decode cX4_remote 177 = .ok (.aload_n 0, 1) := by decide +kernel
theorem dX4_remote_178 : decode cX4_remote 178 = .ok (.getfield 20, 3) := by decide +kernel
theorem dX4_remote_181 : decode cX4_remote 181 = .ok (.iload 5, 2) := by decide +kernel
theorem dX4_remote_183 : decode cX4_remote 183 = .ok (.baload, 1) := by decide +kernel
theorem dX4_remote_184 : decode cX4_remote 184 = .ok (.ifCond .eq 13, 3) := by decide +kernel
theorem dX4_remote_187 : decode cX4_remote 187 = .ok (.aload_n 0, 1) := by decide +kernel
theorem dX4_remote_188 : decode cX4_remote 188 = .ok (.getfield 39, 3) := by decide +kernel
theorem dX4_remote_191 : decode cX4_remote 191 = .ok (.iconst 1, 1) := by decide +kernel
theorem dX4_remote_192 : decode cX4_remote 192 = .ok (.iaload, 1) := by decide +kernel
theorem dX4_remote_193 : decode cX4_remote 193 = .ok (.iconst 3, 1) := by decide +kernel
theorem dX4_remote_194 : decode cX4_remote 194 = .ok (.if_icmp .le 5, 3) := by decide +kernel
theorem dX4_remote_197 : decode cX4_remote 197 = .ok (.iconst 0, 1) := by decide +kernel
theorem dX4_remote_198 : decode cX4_remote 198 = .ok (.ireturn, 1) := by decide +kernel
theorem dX4_remote_199 : decode cX4_remote 199 = .ok (.aload_n 0, 1) := by decide +kernel
theorem dX4_remote_200 : decode cX4_remote 200 = .ok (.getfield 7, 3) := by decide +kernel
theorem dX4_remote_203 : decode cX4_remote 203 = .ok (.iload 5, 2) := by decide +kernel
theorem dX4_remote_205 : decode cX4_remote 205 = .ok (.laload, 1) := by decide +kernel
theorem dX4_remote_206 : decode cX4_remote 206 = .ok (.aload_n 0, 1) := by decide +kernel
theorem dX4_remote_207 : decode cX4_remote 207 = .ok (.getfield 39, 3) := by decide +kernel
theorem dX4_remote_210 : decode cX4_remote 210 = .ok (.iconst 2, 1) := by decide +kernel
theorem dX4_remote_211 : decode cX4_remote 211 = .ok (.iaload, 1) := by decide +kernel
theorem dX4_remote_212 : decode cX4_remote 212 = .ok (.bipush 24, 2) := by decide +kernel
theorem dX4_remote_214 : decode cX4_remote 214 = .ok (.ishl, 1) := by decide +kernel
theorem dX4_remote_215 : decode cX4_remote 215 = .ok (.aload_n 0, 1) := by decide +kernel
theorem dX4_remote_216 : decode cX4_remote 216 = .ok (.getfield 39, 3) := by decide +kernel
theorem dX4_remote_219 : decode cX4_remote 219 = .ok (.iconst 3, 1) := by decide +kernel
theorem dX4_remote_220 : decode cX4_remote 220 = .ok (.iaload, 1) := by decide +kernel
theorem dX4_remote_221 : decode cX4_remote 221 = .ok (.bipush 16, 2) := by decide +kernel
theorem dX4_remote_223 : decode cX4_remote 223 = .ok (.ishl, 1) := by decide +kernel
theorem dX4_remote_224 : decode cX4_remote 224 = .ok (.ior, 1) := by decide +kernel
theorem dX4_remote_225 : decode cX4_remote 225 = .ok (.aload_n 0, 1) := by decide +kernel
theorem dX4_remote_226 : decode cX4_remote 226 = .ok (.getfield 39, 3) := by decide +kernel
theorem dX4_remote_229 : decode cX4_remote 229 = .ok (.iconst 4, 1) := by decide +kernel
theorem dX4_remote_230 : decode cX4_remote 230 = .ok (.iaload, 1) := by decide +kernel
theorem dX4_remote_231 : decode cX4_remote 231 = .ok (.bipush 8, 2) := by decide +kernel
theorem dX4_remote_233 : decode cX4_remote 233 = .ok (.ishl, 1) := by decide +kernel
theorem dX4_remote_234 : decode cX4_remote 234 = .ok (.ior, 1) := by decide +kernel
theorem dX4_remote_235 : decode cX4_remote 235 = .ok (.aload_n 0, 1) := by decide +kernel
theorem dX4_remote_236 : decode cX4_remote 236 = .ok (.getfield 39, 3) := by decide +kernel
theorem dX4_remote_239 : decode cX4_remote 239 = .ok (.iconst 5, 1) := by decide +kernel
theorem dX4_remote_240 : decode cX4_remote 240 = .ok (.iaload, 1) := by decide +kernel
theorem dX4_remote_241 : decode cX4_remote 241 = .ok (.ior, 1) := by decide +kernel
theorem dX4_remote_242 : decode cX4_remote 242 = .ok (.invokestatic 85, 3) := by decide +kernel
theorem dX4_remote_245 : decode cX4_remote 245 = .ok (.istore 6, 2) := by decide +kernel
theorem dX4_remote_247 : decode cX4_remote 247 = .ok (.iload 6, 2) := by decide +kernel
theorem dX4_remote_249 : decode cX4_remote 249 = .ok (.bipush 16, 2) := by decide +kernel
theorem dX4_remote_251 : decode cX4_remote 251 = .ok (.ishr, 1) := by decide +kernel
theorem dX4_remote_252 : decode cX4_remote 252 = .ok (.ldc 55, 2) := by decide +kernel
theorem dX4_remote_254 : decode cX4_remote 254 = .ok (.iand, 1) := by decide +kernel
theorem dX4_remote_255 : decode cX4_remote 255 = .ok (.aload_n 0, 1) := by decide +kernel
theorem dX4_remote_256 : decode cX4_remote 256 = .ok (.getfield 7, 3) := by decide +kernel
theorem dX4_remote_259 : decode cX4_remote 259 = .ok (.iload 5, 2) := by decide +kernel
theorem dX4_remote_261 : decode cX4_remote 261 = .ok (.laload, 1) := by decide +kernel
theorem dX4_remote_262 : decode cX4_remote 262 = .ok (.invokestatic 89, 3) := by decide +kernel
theorem dX4_remote_265 : decode cX4_remote 265 = .ok (.if_icmp .eq 5, 3) := by decide +kernel
theorem dX4_remote_268 : decode cX4_remote 268 = .ok (.iconst 0, 1) := by decide +kernel
theorem dX4_remote_269 : decode cX4_remote 269 = .ok (.ireturn, 1) := by decide +kernel
theorem dX4_remote_270 : decode cX4_remote 270 = .ok (.iload 6, 2) := by decide +kernel
theorem dX4_remote_272 : decode cX4_remote 272 = .ok (.ldc 55, 2) := by decide +kernel
theorem dX4_remote_274 : decode cX4_remote 274 = .ok (.iand, 1) := by decide +kernel
theorem dX4_remote_275 : decode cX4_remote 275 = .ok (.istore 7, 2) := by decide +kernel
theorem dX4_remote_277 : decode cX4_remote 277 = .ok (.iload 7, 2) := by decide +kernel
theorem dX4_remote_279 : decode cX4_remote 279 = .ok (.aload_n 0, 1) := by decide +kernel
theorem dX4_remote_280 : decode cX4_remote 280 = .ok (.getfield 13, 3) := by decide +kernel
theorem dX4_remote_283 : decode cX4_remote 283 = .ok (.iload 5, 2) := by decide +kernel
theorem dX4_remote_285 : decode cX4_remote 285 = .ok (.iaload, 1) := by decide +kernel
theorem dX4_remote_286 : decode cX4_remote 286 = .ok (.if_icmp .lt 16, 3) := by decide +kernel
theorem dX4_remote_289 : decode cX4_remote 289 = .ok (.iload 7, 2) := by decide +kernel
theorem dX4_remote_291 : decode cX4_remote 291 = .ok (.aload_n 0, 1) := by decide +kernel
theorem dX4_remote_292 : decode cX4_remote 292 = .ok (.getfield 13, 3) := by decide +kernel
theorem dX4_remote_295 : decode cX4_remote 295 = .ok (.iload 5, 2) := by decide +kernel
theorem dX4_remote_297 : decode cX4_remote 297 = .ok (.iaload, 1) := by decide +kernel
theorem dX4_remote_298 : decode cX4_remote 298 = .ok (.isub, 1) := by decide +kernel
theorem dX4_remote_299 : decode cX4_remote 299 = .ok (.goto 16, 3) := by decide +kernel
theorem dX4_remote_302 : decode cX4_remote 302 = .ok (.iload 7, 2) := by decide +kernel
theorem dX4_remote_304 : decode cX4_remote 304 = .ok (.ldc 93, 2) := by decide +kernel
theorem dX4_remote_306 : decode cX4_remote 306 = .ok (.iadd, 1) := by decide +kernel
theorem dX4_remote_307 : decode cX4_remote 307 = .ok (.aload_n 0, 1) := by decide +kernel
theorem dX4_remote_308 : decode cX4_remote 308 = .ok (.getfield 13, 3) := by decide +kernel
theorem dX4_remote_311 : decode cX4_remote 311 = .ok (.iload 5, 2) := by decide +kernel
theorem dX4_remote_313 : decode cX4_remote 313 = .ok (.iaload, 1) := by decide +kernel
theorem dX4_remote_314 : decode cX4_remote 314 = .ok (.isub, 1) := by decide +kernel
theorem dX4_remote_315 : decode cX4_remote 315 = .ok (.istore 8, 2) := by decide +kernel
theorem dX4_remote_317 : decode cX4_remote 317 = .ok (.aload_n 0, 1) := by decide +kernel
theorem dX4_remote_318 : decode cX4_remote 318 = .ok (.getfield 17, 3) := by decide +kernel
theorem dX4_remote_321 : decode cX4_remote 321 = .ok (.iload 5, 2) := by decide +kernel
theorem dX4_remote_323 : decode cX4_remote 323 = .ok (.iaload, 1) := by decide +kernel
theorem dX4_remote_324 : decode cX4_remote 324 = .ok (.iload 7, 2) := by decide +kernel
theorem dX4_remote_326 : decode cX4_remote 326 = .ok (.if_icmp .ne 7, 3) := by decide +kernel
theorem dX4_remote_329 : decode cX4_remote 329 = .ok (.iconst 1, 1) := by decide +kernel
theorem dX4_remote_330 : decode cX4_remote 330 = .ok (.goto 4, 3) := by decide +kernel
theorem dX4_remote_333 : decode cX4_remote 333 = .ok (.iconst 0, 1) := by decide +kernel
theorem dX4_remote_334 : decode cX4_remote 334 = .ok (.istore 9, 2) := by decide +kernel
theorem dX4_remote_336 : decode cX4_remote 336 = .ok (.aload_n 0, 1) := by decide +kernel
theorem dX4_remote_337 : decode cX4_remote 337 = .ok (.getfield 17, 3) := by decide +kernel
theorem dX4_remote_340 : decode cX4_remote 340 = .ok (.iload 5, 2) := by decide +kernel
theorem dX4_remote_342 : decode cX4_remote 342 = .ok (.iconst (-1), 1) := by decide +kernel
theorem dX4_remote_343 : decode cX4_remote 343 = .ok (.iastore, 1) := by decide +kernel
theorem dX4_remote_344 : decode cX4_remote 344 = .ok (.iload 8, 2) := by decide +kernel
theorem dX4_remote_346 : decode cX4_remote 346 = .ok (.ifCond .eq 10, 3) := by decide +kernel
theorem dX4_remote_349 : decode cX4_remote 349 = .ok (.iload 8, 2) := by decide +kernel
theorem dX4_remote_351 : decode cX4_remote 351 = .ok (.ldc 94, 2) := by decide +kernel
theorem dX4_remote_353 : decode cX4_remote 353 = .ok (.if_icmp .le 5, 3) := by decide +kernel
theorem dX4_remote_356 : decode cX4_remote 356 = .ok (.iconst 0, 1) := by decide +kernel
theorem dX4_remote_357 : decode cX4_remote 357 = .ok (.ireturn, 1) := by decide +kernel
theorem dX4_remote_358 : decode cX4_remote 358 = .ok (.iload 8, 2) := by decide +kernel
theorem dX4_remote_360 : decode cX4_remote 360 = .ok (.aload_n 0, 1) := by decide +kernel
theorem dX4_remote_361 : decode cX4_remote 361 = .ok (.getfield 42, 3) := by decide +kernel
theorem dX4_remote_364 : decode cX4_remote 364 = .ok (.if_icmp .le 32, 3) := by decide +kernel
theorem dX4_remote_367 : decode cX4_remote 367 = .ok (.iload 9, 2) := by decide +kernel
theorem dX4_remote_369 : decode cX4_remote 369 = .ok (.ifCond .ne 27, 3) := by decide +kernel
theorem dX4_remote_372 : decode cX4_remote 372 = .ok (.aload_n 0, 1) := by decide +kernel
theorem dX4_remote_373 : decode cX4_remote 373 = .ok (.getfield 17, 3) := by decide +kernel
theorem dX4_remote_376 : decode cX4_remote 376 = .ok (.iload 5, 2) := by decide +kernel
theorem dX4_remote_378 : decode cX4_remote 378 = .ok (.iload 7, 2) := by decide +kernel
theorem dX4_remote_380 : decode cX4_remote 380 = .ok (.ldc 55, 2) := by decide +kernel
theorem dX4_remote_382 : decode cX4_remote 382 = .ok (.if_icmp .ne 7, 3) := by decide +kernel
theorem dX4_remote_385 : decode cX4_remote 385 = .ok (.iconst 0, 1) := by decide +kernel
theorem dX4_remote_386 : decode cX4_remote 386 = .ok (.goto 7, 3) := by decide +kernel
theorem dX4_remote_389 : decode cX4_remote 389 = .ok (.iload 7, 2) := by decide +kernel
theorem dX4_remote_391 : decode cX4_remote 391 = .ok (.iconst 1, 1) := by decide +kernel
theorem dX4_remote_392 : decode cX4_remote 392 = .ok (.iadd, 1) := by decide +kernel
theorem dX4_remote_393 : decode cX4_remote 393 = .ok (.iastore, 1) := by decide +kernel
theorem dX4_remote_394 : decode cX4_remote 394 = .ok (.iconst 2, 1) := by decide +kernel
theorem dX4_remote_395 : decode cX4_remote 395 = .ok (.ireturn, 1) := by decide +kernel
theorem dX4_remote_396 : decode cX4_remote 396 = .ok (.aload_n 0, 1) := by decide +kernel
theorem dX4_remote_397 : decode cX4_remote 397 = .ok (.getfield 13, 3) := by decide +kernel
theorem dX4_remote_400 : decode cX4_remote 400 = .ok (.iload 5, 2) := by decide +kernel
theorem dX4_remote_402 : decode cX4_remote 402 = .ok (.iload 7, 2) := by decide +kernel
theorem dX4_remote_404 : decode cX4_remote 404 = .ok (.iastore, 1) := by decide +kernel
theorem dX4_remote_405 : decode cX4_remote 405 = .ok (.aload_n 0, 1) := by decide +kernel
theorem dX4_remote_406 : decode cX4_remote 406 = .ok (.getfield 30, 3) := by decide +kernel
theorem dX4_remote_409 : decode cX4_remote 409 = .ok (.iload 5, 2) := by decide +kernel
theorem dX4_remote_411 : decode cX4_remote 411 = .ok (.aload_n 0, 1) := by decide +kernel
theorem dX4_remote_412 : decode cX4_remote 412 = .ok (.getfield 39, 3) := by decide +kernel
theorem dX4_remote_415 : decode cX4_remote 415 = .ok (.bipush 6, 2) := by decide +kernel
theorem dX4_remote_417 : decode cX4_remote 417 = .ok (.iaload, 1) := by decide +kernel
theorem dX4_remote_418 : decode cX4_remote 418 = .ok (.iconst 1, 1) := by decide +kernel
theorem dX4_remote_419 : decode cX4_remote 419 = .ok (.iand, 1) := by decide +kernel
theorem dX4_remote_420 : decode cX4_remote 420 = .ok (.iastore, 1) := by decide +kernel
theorem dX4_remote_421 : decode cX4_remote 421 = .ok (.aload_n 0, 1) := by decide +kernel
theorem dX4_remote_422 : decode cX4_remote 422 = .ok (.aload_n 0, 1) := by decide +kernel
theorem dX4_remote_423 : decode cX4_remote 423 = .ok (.getfield 39, 3) := by decide +kernel
theorem dX4_remote_426 : decode cX4_remote 426 = .ok (.iconst 1, 1) := by decide +kernel
theorem dX4_remote_427 : decode cX4_remote 427 = .ok (.iaload, 1) := by decide +kernel
theorem dX4_remote_428 : decode cX4_remote 428 = .ok (.invokevirtual 95, 3) := by decide +kernel
theorem dX4_remote_431 : decode cX4_remote 431 = .ok (.iconst 1, 1) := by decide +kernel
theorem dX4_remote_432 : decode cX4_remote 432 = .ok (.ireturn, 1) := by decide +kernel
set_option maxRecDepth 20000 in
theorem ggX4_counter_X4_none : GoodIn wsX4_counter wsX4_none := goodIn_r _ [7, 8, 9, 10, 11, 12, 13, 14, 15, 16, 17, 18, 19, 20, 21, 22, 23, 24, 25, 26, 27, 28, 29] (by decide +kernel) (by decide +kernel)
set_option maxRecDepth 20000 in
theorem gX4_counter_X4_none : GoodIn wsX4_counter (wsV RX4 99 RX4 yX4_none wsX4_none) := goodIn_app (goodIn_of _ (by decide +kernel)) ggX4_counter_X4_none
theorem dX4_counter_0 : decode cX4_counter 0 = .ok (.aload_n 0, 1) := by decide +kernel
theorem dX4_counter_1 : decode cX4_counter 1 = .ok (.iload_n 1, 1) := by decide +kernel
theorem dX4_counter_2 : decode cX4_counter 2 = .ok (.invokevirtual 99, 3) := by decide +kernel
theorem dX4_counter_5 : decode cX4_counter 5 = .ok (.ifCond .eq 9, 3) := by decide +kernel
theorem dX4_counter_8 : decode cX4_counter 8 = .ok (.ldc2_w 102, 3) := by decide +kernel
theorem dX4_counter_11 : decode cX4_counter 11 = .ok (.goto 10, 3) := by decide +kernel
theorem dX4_counter_14 : decode cX4_counter 14 = .ok (.aload_n 0, 1) := by decide +kernel
theorem dX4_counter_15 : decode cX4_counter 15 = .ok (.getfield 13, 3) := by decide +kernel
theorem dX4_counter_18 : decode cX4_counter 18 = .ok (.iload_n 1, 1) := by decide +kernel
theorem dX4_counter_19 : decode cX4_counter 19 = .ok (.iaload, 1) := by decide +kernel
theorem dX4_counter_20 : decode cX4_counter 20 = .ok (.i2l, 1) := by decide +kernel
theorem dX4_counter_21 : decode cX4_counter 21 = .ok (.lreturn, 1) := by decide +kernel
set_option maxRecDepth 20000 in
theorem ggX4_lock_X4_turn : GoodIn wsX4_lock wsX4_turn := goodIn_r _ [7, 8, 9, 10, 11, 12, 13, 6, 14, 15, 16, 17, 18, 19, 20, 21, 22, 23, 24, 25, 26, 27, 28, 29, 30, 31, 32, 33, 34] (by decide +kernel) (by decide +kernel)
set_option maxRecDepth 20000 in
theorem gX4_lock_X4_turn : GoodIn wsX4_lock (wsV RX4 71 RX4 yX4_turn wsX4_turn) := goodIn_app (goodIn_of _ (by decide +kernel)) ggX4_lock_X4_turn
set_option maxRecDepth 20000 in
theorem ggX4_lock_X4_some : GoodIn wsX4_lock wsX4_some := goodIn_r _ [14, 8, 15, 16, 17, 18, 19, 20, 21, 22, 23, 24, 25, 26, 27, 28, 29, 30, 31, 32, 33, 34] (by decide +kernel) (by decide +kernel)
set_option maxRecDepth 20000 in
theorem gX4_lock_X4_some : GoodIn wsX4_lock (wsV RX4 60 RX4 yX4_some wsX4_some) := goodIn_app (goodIn_of _ (by decide +kernel)) ggX4_lock_X4_some
theorem dX4_lock_0 : decode cX4_lock 0 = .ok (.aload_n 0, 1) := by decide +kernel
theorem dX4_lock_1 : decode cX4_lock 1 = .ok (.iconst 0, 1) := by decide +kernel
theorem dX4_lock_2 : decode cX4_lock 2 = .ok (.putfield 46, 3) := by decide +kernel
theorem dX4_lock_5 : decode cX4_lock 5 = .ok (.iload_n 1, 1) := by decide +kernel
theorem dX4_lock_6 : decode cX4_lock 6 = .ok (.ifCond .lt 8, 3) := by decide +kernel
theorem dX4_lock_9 : decode cX4_lock 9 = .ok (.iload_n 1, 1) := by decide +kernel
theorem dX4_lock_10 : decode cX4_lock 10 = .ok (.iconst 3, 1) := by decide +kernel
theorem dX4_lock_11 : decode cX4_lock 11 = .ok (.if_icmp .le 6, 3) := by decide +kernel
theorem dX4_lock_14 : decode cX4_lock 14 = .ok (.bipush (-2), 2) := by decide +kernel
theorem dX4_lock_16 : decode cX4_lock 16 = .ok (.ireturn, 1) := by decide +kernel
theorem dX4_lock_17 : decode cX4_lock 17 = .ok (.iload_n 1, 1) := by decide +kernel
theorem dX4_lock_18 : decode cX4_lock 18 = .ok (.iconst 3, 1) := by decide +kernel
theorem dX4_lock_19 : decode cX4_lock 19 = .ok (.if_icmp .ge 13, 3) := by decide +kernel
theorem dX4_lock_22 : decode cX4_lock 22 = .ok (.aload_n 0, 1) := by decide +kernel
theorem dX4_lock_23 : decode cX4_lock 23 = .ok (.getfield 75, 3) := by decide +kernel
theorem dX4_lock_26 : decode cX4_lock 26 = .ok (.ifCond .eq 6, 3) := by decide +kernel
theorem dX4_lock_29 : decode cX4_lock 29 = .ok (.bipush (-3), 2) := by decide +kernel
theorem dX4_lock_31 : decode cX4_lock 31 = .ok (.ireturn, 1) := by decide +kernel
theorem dX4_lock_32 : decode cX4_lock 32 = .ok (.iload_n 1, 1) := by decide +kernel
theorem dX4_lock_33 : decode cX4_lock 33 = .ok (.ifCond .ne 12, 3) := by decide +kernel
theorem dX4_lock_36 : decode cX4_lock 36 = .ok (.aload_n 0, 1) := by decide +kernel
theorem dX4_lock_37 : decode cX4_lock 37 = .ok (.iconst 0, 1) := by decide +kernel
theorem dX4_lock_38 : decode cX4_lock 38 = .ok (.iconst 5, 1) := by decide +kernel
theorem dX4_lock_39 : decode cX4_lock 39 = .ok (.iconst 0, 1) := by decide +kernel
theorem dX4_lock_40 : decode cX4_lock 40 = .ok (.iconst 1, 1) := by decide +kernel
theorem dX4_lock_41 : decode cX4_lock 41 = .ok (.invokevirtual 71, 3) := by decide +kernel
theorem dX4_lock_44 : decode cX4_lock 44 = .ok (.ireturn, 1) := by decide +kernel
theorem dX4_lock_45 : decode cX4_lock 45 = .ok (.iload_n 1, 1) := by decide +kernel
theorem dX4_lock_46 : decode cX4_lock 46 = .ok (.iconst 1, 1) := by decide +kernel
theorem dX4_lock_47 : decode cX4_lock 47 = .ok (.if_icmp .ne 24, 3) := by decide +kernel
theorem dX4_lock_50 : decode cX4_lock 50 = .ok (.aload_n 0, 1) := by decide +kernel
theorem dX4_lock_51 : decode cX4_lock 51 = .ok (.iconst 0, 1) := by decide +kernel
theorem dX4_lock_52 : decode cX4_lock 52 = .ok (.invokevirtual 60, 3) := by decide +kernel
theorem dX4_lock_55 : decode cX4_lock 55 = .ok (.ifCond .eq 7, 3) := by decide +kernel
theorem dX4_lock_58 : decode cX4_lock 58 = .ok (.iconst 0, 1) := by decide +kernel
theorem dX4_lock_59 : decode cX4_lock 59 = .ok (.goto 11, 3) := by decide +kernel
theorem dX4_lock_62 : decode cX4_lock 62 = .ok (.aload_n 0, 1) := by decide +kernel
theorem dX4_lock_63 : decode cX4_lock 63 = .ok (.iconst 0, 1) := by decide +kernel
theorem dX4_lock_64 : decode cX4_lock 64 = .ok (.iconst 5, 1) := by decide +kernel
theorem dX4_lock_65 : decode cX4_lock 65 = .ok (.iconst 3, 1) := by decide +kernel
theorem dX4_lock_66 : decode cX4_lock 66 = .ok (.iconst 2, 1) := by decide +kernel
theorem dX4_lock_67 : decode cX4_lock 67 = .ok (.invokevirtual 71, 3) := by decide +kernel
theorem dX4_lock_70 : decode cX4_lock 70 = .ok (.ireturn, 1) := by decide +kernel
theorem dX4_lock_71 : decode cX4_lock 71 = .ok (.iload_n 1, 1) := by decide +kernel
theorem dX4_lock_72 : decode cX4_lock 72 = .ok (.iconst 2, 1) := by decide +kernel
theorem dX4_lock_73 : decode cX4_lock 73 = .ok (.if_icmp .ne 12, 3) := by decide +kernel
theorem dX4_lock_76 : decode cX4_lock 76 = .ok (.aload_n 0, 1) := by decide +kernel
theorem dX4_lock_77 : decode cX4_lock 77 = .ok (.iconst 4, 1) := by decide +kernel
theorem dX4_lock_78 : decode cX4_lock 78 = .ok (.iconst 5, 1) := by decide +kernel
theorem dX4_lock_79 : decode cX4_lock 79 = .ok (.iconst 0, 1) := by decide +kernel
theorem dX4_lock_80 : decode cX4_lock 80 = .ok (.iconst 1, 1) := by decide +kernel
theorem dX4_lock_81 : decode cX4_lock 81 = .ok (.invokevirtual 71, 3) := by decide +kernel
theorem dX4_lock_84 : decode cX4_lock 84 = .ok (.ireturn, 1) := by decide +kernel
theorem dX4_lock_85 : decode cX4_lock 85 = .ok (.aload_n 0, 1) := by decide +kernel
theorem dX4_lock_86 : decode cX4_lock 86 = .ok (.iconst 2, 1) := by decide +kernel
theorem dX4_lock_87 : decode cX4_lock 87 = .ok (.invokevirtual 60, 3) := by decide +kernel
theorem dX4_lock_90 : decode cX4_lock 90 = .ok (.ifCond .eq 7, 3) := by decide +kernel
theorem dX4_lock_93 : decode cX4_lock 93 = .ok (.iconst 0, 1) := by decide +kernel
theorem dX4_lock_94 : decode cX4_lock 94 = .ok (.goto 11, 3) := by decide +kernel
theorem dX4_lock_97 : decode cX4_lock 97 = .ok (.aload_n 0, 1) := by decide +kernel
theorem dX4_lock_98 : decode cX4_lock 98 = .ok (.iconst 0, 1) := by decide +kernel
theorem dX4_lock_99 : decode cX4_lock 99 = .ok (.iconst 5, 1) := by decide +kernel
theorem dX4_lock_100 : decode cX4_lock 100 = .ok (.iconst 3, 1) := by decide +kernel
theorem dX4_lock_101 : decode cX4_lock 101 = .ok (.iconst 0, 1) := by decide +kernel
theorem dX4_lock_102 : decode cX4_lock 102 = .ok (.invokevirtual 71, 3) := by decide +kernel
theorem dX4_lock_105 : decode cX4_lock 105 = .ok (.ireturn, 1) := by decide +kernel
theorem dX4_here_0 : decode cX4_here 0 = .ok (.aload_n 0, 1) := by decide +kernel
theorem dX4_here_1 : decode cX4_here 1 = .ok (.getfield 20, 3) := by decide +kernel
theorem dX4_here_4 : decode cX4_here 4 = .ok (.iload_n 1, 1) := by decide +kernel
theorem dX4_here_5 : decode cX4_here 5 = .ok (.baload, 1) := by decide +kernel
theorem dX4_here_6 : decode cX4_here 6 = .ok (.ifCond .eq 25, 3) := by decide +kernel
theorem dX4_here_9 : decode cX4_here 9 = .ok (.aload_n 0, 1) := by decide +kernel
theorem dX4_here_10 : decode cX4_here 10 = .ok (.getfield 24, 3) := by decide +kernel
theorem dX4_here_13 : decode cX4_here 13 = .ok (.iload_n 1, 1) := by decide +kernel
theorem dX4_here_14 : decode cX4_here 14 = .ok (.baload, 1) := by decide +kernel
theorem dX4_here_15 : decode cX4_here 15 = .ok (.ifCond .ne 12, 3) := by decide +kernel
theorem dX4_here_18 : decode cX4_here 18 = .ok (.aload_n 0, 1) := by decide +kernel
theorem dX4_here_19 : decode cX4_here 19 = .ok (.getfield 27, 3) := by decide +kernel
theorem dX4_here_22 : decode cX4_here 22 = .ok (.iload_n 1, 1) := by decide +kernel
theorem dX4_here_23 : decode cX4_here 23 = .ok (.baload, 1) := by decide +kernel
theorem dX4_here_24 : decode cX4_here 24 = .ok (.ifCond .eq 7, 3) := by decide +kernel
theorem dX4_here_27 : decode cX4_here 27 = .ok (.iconst 1, 1) := by decide +kernel
theorem dX4_here_28 : decode cX4_here 28 = .ok (.goto 4, 3) := by decide +kernel
theorem dX4_here_31 : decode cX4_here 31 = .ok (.iconst 0, 1) := by decide +kernel
theorem dX4_here_32 : decode cX4_here 32 = .ok (.ireturn, 1) := by decide +kernel
set_option maxRecDepth 20000 in
theorem ggX4_learn_X4_none : GoodIn wsX4_learn wsX4_none := goodIn_r _ [6, 7, 8, 15, 16, 17, 18, 19, 20, 21, 22, 23, 24, 25, 26, 27, 28, 29, 30, 31, 32, 33, 34] (by decide +kernel) (by decide +kernel)
set_option maxRecDepth 20000 in
theorem gX4_learn_X4_none : GoodIn wsX4_learn (wsV RX4 99 RX4 yX4_none wsX4_none) := goodIn_app (goodIn_of _ (by decide +kernel)) ggX4_learn_X4_none
set_option maxRecDepth 20000 in
theorem ggX4_learn_X4_here : GoodIn wsX4_learn wsX4_here := goodIn_r _ [12, 1, 13, 14, 15, 16, 17, 18, 19, 20, 21, 22, 23, 24, 25, 26, 27, 28, 29, 30, 31, 32, 33, 34] (by decide +kernel) (by decide +kernel)
set_option maxRecDepth 20000 in
theorem gX4_learn_X4_here : GoodIn wsX4_learn (wsV RX4 104 RX4 yX4_here wsX4_here) := goodIn_app (goodIn_of _ (by decide +kernel)) ggX4_learn_X4_here
theorem dX4_learn_0 : decode cX4_learn 0 = .ok (.aload_n 0, 1) := by decide +kernel
theorem dX4_learn_1 : decode cX4_learn 1 = .ok (.iload_n 1, 1) := by decide +kernel
theorem dX4_learn_2 : decode cX4_learn 2 = .ok (.invokevirtual 99, 3) := by decide +kernel
theorem dX4_learn_5 : decode cX4_learn 5 = .ok (.ifCond .ne 19, 3) := by decide +kernel
theorem dX4_learn_8 : decode cX4_learn 8 = .ok (.aload_n 0, 1) := by decide +kernel
theorem dX4_learn_9 : decode cX4_learn 9 = .ok (.iload_n 2, 1) := by decide +kernel
theorem dX4_learn_10 : decode cX4_learn 10 = .ok (.invokevirtual 99, 3) := by decide +kernel
theorem dX4_learn_13 : decode cX4_learn 13 = .ok (.ifCond .ne 11, 3) := by decide +kernel
theorem dX4_learn_16 : decode cX4_learn 16 = .ok (.aload_n 0, 1) := by decide +kernel
theorem dX4_learn_17 : decode cX4_learn 17 = .ok (.iload_n 3, 1) := by decide +kernel
theorem dX4_learn_18 : decode cX4_learn 18 = .ok (.invokevirtual 99, 3) := by decide +kernel
theorem dX4_learn_21 : decode cX4_learn 21 = .ok (.ifCond .eq 5, 3) := by decide +kernel
theorem dX4_learn_24 : decode cX4_learn 24 = .ok (.iconst (-1), 1) := by decide +kernel
theorem dX4_learn_25 : decode cX4_learn 25 = .ok (.ireturn, 1) := by decide +kernel
theorem dX4_learn_26 : decode cX4_learn 26 = .ok (.aload_n 0, 1) := by decide +kernel
theorem dX4_learn_27 : decode cX4_learn 27 = .ok (.getfield 20, 3) := by decide +kernel
theorem dX4_learn_30 : decode cX4_learn 30 = .ok (.iload_n 1, 1) := by decide +kernel
theorem dX4_learn_31 : decode cX4_learn 31 = .ok (.baload, 1) := by decide +kernel
theorem dX4_learn_32 : decode cX4_learn 32 = .ok (.ifCond .ne 24, 3) := by decide +kernel
theorem dX4_learn_35 : decode cX4_learn 35 = .ok (.iload_n 2, 1) := by decide +kernel
theorem dX4_learn_36 : decode cX4_learn 36 = .ok (.iload_n 3, 1) := by decide +kernel
theorem dX4_learn_37 : decode cX4_learn 37 = .ok (.if_icmp .eq 19, 3) := by decide +kernel
theorem dX4_learn_40 : decode cX4_learn 40 = .ok (.aload_n 0, 1) := by decide +kernel
theorem dX4_learn_41 : decode cX4_learn 41 = .ok (.iload_n 2, 1) := by decide +kernel
theorem dX4_learn_42 : decode cX4_learn 42 = .ok (.invokevirtual 104, 3) := by decide +kernel
theorem dX4_learn_45 : decode cX4_learn 45 = .ok (.ifCond .eq 11, 3) := by decide +kernel
theorem dX4_learn_48 : decode cX4_learn 48 = .ok (.aload_n 0, 1) := by decide +kernel
theorem dX4_learn_49 : decode cX4_learn 49 = .ok (.iload_n 3, 1) := by decide +kernel
theorem dX4_learn_50 : decode cX4_learn 50 = .ok (.invokevirtual 104, 3) := by decide +kernel
theorem dX4_learn_53 : decode cX4_learn 53 = .ok (.ifCond .ne 5, 3) := by decide +kernel
theorem dX4_learn_56 : decode cX4_learn 56 = .ok (.iconst 0, 1) := by decide +kernel
theorem dX4_learn_57 : decode cX4_learn 57 = .ok (.ireturn, 1) := by decide +kernel
theorem dX4_learn_58 : decode cX4_learn 58 = .ok (.aload_n 0, 1) := by decide +kernel
theorem dX4_learn_59 : decode cX4_learn 59 = .ok (.getfield 20, 3) := by decide +kernel
theorem dX4_learn_62 : decode cX4_learn 62 = .ok (.iload_n 1, 1) := by decide +kernel
theorem dX4_learn_63 : decode cX4_learn 63 = .ok (.iconst 1, 1) := by decide +kernel
theorem dX4_learn_64 : decode cX4_learn 64 = .ok (.bastore, 1) := by decide +kernel
theorem dX4_learn_65 : decode cX4_learn 65 = .ok (.iconst 1, 1) := by decide +kernel
theorem dX4_learn_66 : decode cX4_learn 66 = .ok (.ireturn, 1) := by decide +kernel
set_option maxRecDepth 20000 in
theorem ggX4_erase_X4_none : GoodIn wsX4_erase wsX4_none := goodIn_r _ [9, 10, 1, 11, 12, 13, 14, 15, 16, 17, 18, 19, 20, 21, 22, 23, 24, 25, 26, 27, 28, 29, 30] (by decide +kernel) (by decide +kernel)
set_option maxRecDepth 20000 in
theorem gX4_erase_X4_none : GoodIn wsX4_erase (wsV RX4 99 RX4 yX4_none wsX4_none) := goodIn_app (goodIn_of _ (by decide +kernel)) ggX4_erase_X4_none
theorem dX4_erase_0 : decode cX4_erase 0 = .ok (.aload_n 0, 1) := by decide +kernel
theorem dX4_erase_1 : decode cX4_erase 1 = .ok (.iload_n 1, 1) := by decide +kernel
theorem dX4_erase_2 : decode cX4_erase 2 = .ok (.invokevirtual 99, 3) := by decide +kernel
theorem dX4_erase_5 : decode cX4_erase 5 = .ok (.ifCond .eq 5, 3) := by decide +kernel
theorem dX4_erase_8 : decode cX4_erase 8 = .ok (.iconst (-1), 1) := by decide +kernel
theorem dX4_erase_9 : decode cX4_erase 9 = .ok (.ireturn, 1) := by decide +kernel
theorem dX4_erase_10 : decode cX4_erase 10 = .ok (.iconst 0, 1) := by decide +kernel
theorem dX4_erase_11 : decode cX4_erase 11 = .ok (.istore_n 2, 1) := by decide +kernel
theorem dX4_erase_12 : decode cX4_erase 12 = .ok (.iconst 1, 1) := by decide +kernel
theorem dX4_erase_13 : decode cX4_erase 13 = .ok (.istore_n 3, 1) := by decide +kernel
theorem dX4_erase_14 : decode cX4_erase 14 = .ok (.iload_n 3, 1) := by decide +kernel
theorem dX4_erase_15 : decode cX4_erase 15 = .ok (.aload_n 0, 1) := by decide +kernel
theorem dX4_erase_16 : decode cX4_erase 16 = .ok (.getfield 49, 3) := by decide +kernel
theorem dX4_erase_19 : decode cX4_erase 19 = .ok (.if_icmp .gt 26, 3) := by decide +kernel
theorem dX4_erase_22 : decode cX4_erase 22 = .ok (.aload_n 0, 1) := by decide +kernel
theorem dX4_erase_23 : decode cX4_erase 23 = .ok (.getfield 20, 3) := by decide +kernel
theorem dX4_erase_26 : decode cX4_erase 26 = .ok (.iload_n 3, 1) := by decide +kernel
theorem dX4_erase_27 : decode cX4_erase 27 = .ok (.baload, 1) := by decide +kernel
theorem dX4_erase_28 : decode cX4_erase 28 = .ok (.ifCond .eq 9, 3) := by decide +kernel
theorem dX4_erase_31 : decode cX4_erase 31 = .ok (.iload_n 2, 1) := by decide +kernel
theorem dX4_erase_32 : decode cX4_erase 32 = .ok (.iconst 1, 1) := by decide +kernel
theorem dX4_erase_33 : decode cX4_erase 33 = .ok (.iadd, 1) := by decide +kernel
theorem dX4_erase_34 : decode cX4_erase 34 = .ok (.goto 4, 3) := by decide +kernel
theorem dX4_erase_37 : decode cX4_erase 37 = .ok (.iload_n 2, 1) := by decide +kernel
theorem dX4_erase_38 : decode cX4_erase 38 = .ok (.istore_n 2, 1) := by decide +kernel
theorem dX4_erase_39 : decode cX4_erase 39 = .ok (.iinc 3 1, 3) := by decide +kernel
theorem dX4_erase_42 : decode cX4_erase 42 = .ok (.goto (-28), 3) := by decide +kernel
theorem dX4_erase_45 : decode cX4_erase 45 = .ok (.aload_n 0, 1) := by decide +kernel
theorem dX4_erase_46 : decode cX4_erase 46 = .ok (.getfield 20, 3) := by decide +kernel
theorem dX4_erase_49 : decode cX4_erase 49 = .ok (.iload_n 1, 1) := by decide +kernel
theorem dX4_erase_50 : decode cX4_erase 50 = .ok (.baload, 1) := by decide +kernel
theorem dX4_erase_51 : decode cX4_erase 51 = .ok (.ifCond .eq 8, 3) := by decide +kernel
theorem dX4_erase_54 : decode cX4_erase 54 = .ok (.iload_n 2, 1) := by decide +kernel
theorem dX4_erase_55 : decode cX4_erase 55 = .ok (.iconst 1, 1) := by decide +kernel
theorem dX4_erase_56 : decode cX4_erase 56 = .ok (.if_icmp .ne 5, 3) := by decide +kernel
theorem dX4_erase_59 : decode cX4_erase 59 = .ok (.iconst 0, 1) := by decide +kernel
theorem dX4_erase_60 : decode cX4_erase 60 = .ok (.ireturn, 1) := by decide +kernel
theorem dX4_erase_61 : decode cX4_erase 61 = .ok (.aload_n 0, 1) := by decide +kernel
theorem dX4_erase_62 : decode cX4_erase 62 = .ok (.getfield 20, 3) := by decide +kernel
theorem dX4_erase_65 : decode cX4_erase 65 = .ok (.iload_n 1, 1) := by decide +kernel
theorem dX4_erase_66 : decode cX4_erase 66 = .ok (.iconst 0, 1) := by decide +kernel
theorem dX4_erase_67 : decode cX4_erase 67 = .ok (.bastore, 1) := by decide +kernel
theorem dX4_erase_68 : decode cX4_erase 68 = .ok (.aload_n 0, 1) := by decide +kernel
theorem dX4_erase_69 : decode cX4_erase 69 = .ok (.getfield 24, 3) := by decide +kernel
theorem dX4_erase_72 : decode cX4_erase 72 = .ok (.iload_n 1, 1) := by decide +kernel
theorem dX4_erase_73 : decode cX4_erase 73 = .ok (.iconst 0, 1) := by decide +kernel
theorem dX4_erase_74 : decode cX4_erase 74 = .ok (.bastore, 1) := by decide +kernel
theorem dX4_erase_75 : decode cX4_erase 75 = .ok (.aload_n 0, 1) := by decide +kernel
theorem dX4_erase_76 : decode cX4_erase 76 = .ok (.getfield 27, 3) := by decide +kernel
theorem dX4_erase_79 : decode cX4_erase 79 = .ok (.iload_n 1, 1) := by decide +kernel
theorem dX4_erase_80 : decode cX4_erase 80 = .ok (.iconst 0, 1) := by decide +kernel
theorem dX4_erase_81 : decode cX4_erase 81 = .ok (.bastore, 1) := by decide +kernel
theorem dX4_erase_82 : decode cX4_erase 82 = .ok (.iconst 1, 1) := by decide +kernel
theorem dX4_erase_83 : decode cX4_erase 83 = .ok (.ireturn, 1) := by decide +kernel
theorem dX4_far_0 : decode cX4_far 0 = .ok (.lload_n 1, 1) := by decide +kernel
theorem dX4_far_1 : decode cX4_far 1 = .ok (.iload_n 0, 1) := by decide +kernel
theorem dX4_far_2 : decode cX4_far 2 = .ok (.iconst 2, 1) := by decide +kernel
theorem dX4_far_3 : decode cX4_far 3 = .ok (.if_icmp .ge 9, 3) := by decide +kernel
theorem dX4_far_6 : decode cX4_far 6 = .ok (.ldc2_w 107, 3) := by decide +kernel
theorem dX4_far_9 : decode cX4_far 9 = .ok (.goto 17, 3) := by decide +kernel
theorem dX4_far_12 : decode cX4_far 12 = .ok (.iload_n 0, 1) := by decide +kernel
theorem dX4_far_13 : decode cX4_far 13 = .ok (.iconst 4, 1) := by decide +kernel
theorem dX4_far_14 : decode cX4_far 14 = .ok (.if_icmp .ge 9, 3) := by decide +kernel
theorem dX4_far_17 : decode cX4_far 17 = .ok (.ldc2_w 109, 3) := by decide +kernel
theorem dX4_far_20 : decode cX4_far 20 = .ok (.goto 6, 3) := by decide +kernel
theorem dX4_far_23 : decode cX4_far 23 = .ok (.ldc2_w 111, 3) := by decide +kernel
theorem dX4_far_26 : decode cX4_far 26 = .ok (.lsub, 1) := by decide +kernel
theorem dX4_far_27 : decode cX4_far 27 = .ok (.lstore 5, 2) := by decide +kernel
theorem dX4_far_29 : decode cX4_far 29 = .ok (.lload_n 3, 1) := by decide +kernel
theorem dX4_far_30 : decode cX4_far 30 = .ok (.iload_n 0, 1) := by decide +kernel
theorem dX4_far_31 : decode cX4_far 31 = .ok (.iconst 4, 1) := by decide +kernel
theorem dX4_far_32 : decode cX4_far 32 = .ok (.if_icmp .ne 7, 3) := by decide +kernel
theorem dX4_far_35 : decode cX4_far 35 = .ok (.lconst 0, 1) := by decide +kernel
theorem dX4_far_36 : decode cX4_far 36 = .ok (.goto 18, 3) := by decide +kernel
theorem dX4_far_39 : decode cX4_far 39 = .ok (.iload_n 0, 1) := by decide +kernel
theorem dX4_far_40 : decode cX4_far 40 = .ok (.iconst 2, 1) := by decide +kernel
theorem dX4_far_41 : decode cX4_far 41 = .ok (.irem, 1) := by decide +kernel
theorem dX4_far_42 : decode cX4_far 42 = .ok (.ifCond .ne 9, 3) := by decide +kernel
theorem dX4_far_45 : decode cX4_far 45 = .ok (.ldc2_w 113, 3) := by decide +kernel
theorem dX4_far_48 : decode cX4_far 48 = .ok (.goto 6, 3) := by decide +kernel
theorem dX4_far_51 : decode cX4_far 51 = .ok (.ldc2_w 115, 3) := by decide +kernel
theorem dX4_far_54 : decode cX4_far 54 = .ok (.lsub, 1) := by decide +kernel
theorem dX4_far_55 : decode cX4_far 55 = .ok (.lstore 7, 2) := by decide +kernel
theorem dX4_far_57 : decode cX4_far 57 = .ok (.lload 5, 2) := by decide +kernel
theorem dX4_far_59 : decode cX4_far 59 = .ok (.lload 5, 2) := by decide +kernel
theorem dX4_far_61 : decode cX4_far 61 = .ok (.lmul, 1) := by decide +kernel
theorem dX4_far_62 : decode cX4_far 62 = .ok (.lload 7, 2) := by decide +kernel
theorem dX4_far_64 : decode cX4_far 64 = .ok (.lload 7, 2) := by decide +kernel
theorem dX4_far_66 : decode cX4_far 66 = .ok (.lmul, 1) := by decide +kernel
theorem dX4_far_67 : decode cX4_far 67 = .ok (.ladd, 1) := by decide +kernel
theorem dX4_far_68 : decode cX4_far 68 = .ok (.lreturn, 1) := by decide +kernel
set_option maxRecDepth 20000 in
theorem ggX4_field_X4_none : GoodIn wsX4_field wsX4_none := goodIn_r _ [16, 17, 18, 38, 39, 40, 41, 42, 43, 44, 45, 46, 47, 48, 49, 50, 51, 52, 53, 54, 55, 56, 57] (by decide +kernel) (by decide +kernel)
set_option maxRecDepth 20000 in
theorem gX4_field_X4_none : GoodIn wsX4_field (wsV RX4 99 RX4 yX4_none wsX4_none) := goodIn_app (goodIn_of _ (by decide +kernel)) ggX4_field_X4_none
set_option maxRecDepth 20000 in
theorem ggX4_field_X4_far : GoodIn wsX4_field wsX4_far := goodIn_r _ [21, 22, 23, 24, 25, 26] (by decide +kernel) (by decide +kernel)
set_option maxRecDepth 20000 in
theorem gX4_field_X4_far : GoodIn wsX4_field (va_wsS RX4 126 yX4_far wsX4_far) := goodIn_app (goodIn_of _ (by decide +kernel)) ggX4_field_X4_far
set_option maxRecDepth 20000 in
theorem ggX4_field_X4_turn : GoodIn wsX4_field wsX4_turn := goodIn_r _ [30, 31, 32, 33, 34, 35, 36, 15, 37, 38, 39, 40, 41, 42, 43, 44, 45, 46, 47, 48, 49, 50, 51, 52, 53, 54, 55, 56, 57] (by decide +kernel) (by decide +kernel)
set_option maxRecDepth 20000 in
theorem gX4_field_X4_turn : GoodIn wsX4_field (wsV RX4 71 RX4 yX4_turn wsX4_turn) := goodIn_app (goodIn_of _ (by decide +kernel)) ggX4_field_X4_turn
theorem dX4_field_0 : decode cX4_field 0 = .ok (.aload_n 0, 1) := by decide +kernel
theorem dX4_field_1 : decode cX4_field 1 = .ok (.iload_n 1, 1) := by decide +kernel
theorem dX4_field_2 : decode cX4_field 2 = .ok (.invokevirtual 99, 3) := by decide +kernel
theorem dX4_field_5 : decode cX4_field 5 = .ok (.ifCond .eq 5, 3) := by decide +kernel
theorem dX4_field_8 : decode cX4_field 8 = .ok (.iconst (-1), 1) := by decide +kernel
theorem dX4_field_9 : decode cX4_field 9 = .ok (.ireturn, 1) := by decide +kernel
theorem dX4_field_10 : decode cX4_field 10 = .ok (.lload_n 2, 1) := by decide +kernel
theorem dX4_field_11 : decode cX4_field 11 = .ok (.ldc2_w 117, 3) := by decide +kernel
theorem dX4_field_14 : decode cX4_field 14 = .ok (.lcmp, 1) := by decide +kernel
theorem dX4_field_15 : decode cX4_field 15 = .ok (.ifCond .lt 36, 3) := by decide +kernel
theorem dX4_field_18 : decode cX4_field 18 = .ok (.lload_n 2, 1) := by decide +kernel
theorem dX4_field_19 : decode cX4_field 19 = .ok (.ldc2_w 119, 3) := by decide +kernel
theorem dX4_field_22 : decode cX4_field 22 = .ok (.lcmp, 1) := by decide +kernel
theorem dX4_field_23 : decode cX4_field 23 = .ok (.ifCond .gt 28, 3) := by decide +kernel
theorem dX4_field_26 : decode cX4_field 26 = .ok (.lload 4, 2) := by decide +kernel
theorem dX4_field_28 : decode cX4_field 28 = .ok (.ldc2_w 117, 3) := by decide +kernel
theorem dX4_field_31 : decode cX4_field 31 = .ok (.lcmp, 1) := by decide +kernel
theorem dX4_field_32 : decode cX4_field 32 = .ok (.ifCond .lt 19, 3) := by decide +kernel
theorem dX4_field_35 : decode cX4_field 35 = .ok (.lload 4, 2) := by decide +kernel
theorem dX4_field_37 : decode cX4_field 37 = .ok (.ldc2_w 119, 3) := by decide +kernel
theorem dX4_field_40 : decode cX4_field 40 = .ok (.lcmp, 1) := by decide +kernel
theorem dX4_field_41 : decode cX4_field 41 = .ok (.ifCond .gt 10, 3) := by decide +kernel
theorem dX4_field_44 : decode cX4_field 44 = .ok (.lload 6, 2) := by decide +kernel
theorem dX4_field_46 : decode cX4_field 46 = .ok (.lconst 1, 1) := by decide +kernel
theorem dX4_field_47 : decode cX4_field 47 = .ok (.lcmp, 1) := by decide +kernel
theorem dX4_field_48 : decode cX4_field 48 = .ok (.ifCond .ge 6, 3) := by decide +kernel
theorem dX4_field_51 : decode cX4_field 51 = .ok (.bipush (-2), 2) := by decide +kernel
theorem dX4_field_53 : decode cX4_field 53 = .ok (.ireturn, 1) := by decide +kernel
theorem dX4_field_54 : decode cX4_field 54 = .ok (.lload 6, 2) := by decide +kernel
theorem dX4_field_56 : decode cX4_field 56 = .ok (.ldc2_w 121, 3) := by decide +kernel
theorem dX4_field_59 : decode cX4_field 59 = .ok (.lcmp, 1) := by decide +kernel
theorem dX4_field_60 : decode cX4_field 60 = .ok (.ifCond .le 7, 3) := by decide +kernel
theorem dX4_field_63 : decode cX4_field 63 = .ok (.iconst 1, 1) := by decide +kernel
theorem dX4_field_64 : decode cX4_field 64 = .ok (.goto 4, 3) := by decide +kernel
theorem dX4_field_67 : decode cX4_field 67 = .ok (.iconst 0, 1) := by decide +kernel
theorem dX4_field_68 : decode cX4_field 68 = .ok (.istore 8, 2) := by decide +kernel
theorem dX4_field_70 : decode cX4_field 70 = .ok (.aload_n 0, 1) := by decide +kernel
theorem dX4_field_71 : decode cX4_field 71 = .ok (.iload 8, 2) := by decide +kernel
theorem dX4_field_73 : decode cX4_field 73 = .ok (.ifCond .eq 12, 3) := by decide +kernel
theorem dX4_field_76 : decode cX4_field 76 = .ok (.aload_n 0, 1) := by decide +kernel
theorem dX4_field_77 : decode cX4_field 77 = .ok (.getfield 123, 3) := by decide +kernel
theorem dX4_field_80 : decode cX4_field 80 = .ok (.iconst 1, 1) := by decide +kernel
theorem dX4_field_81 : decode cX4_field 81 = .ok (.iadd, 1) := by decide +kernel
theorem dX4_field_82 : decode cX4_field 82 = .ok (.goto 7, 3) := by decide +kernel
theorem dX4_field_85 : decode cX4_field 85 = .ok (.aload_n 0, 1) := by decide +kernel
theorem dX4_field_86 : decode cX4_field 86 = .ok (.getfield 123, 3) := by decide +kernel
theorem dX4_field_89 : decode cX4_field 89 = .ok (.putfield 123, 3) := by decide +kernel
theorem dX4_field_92 : decode cX4_field 92 = .ok (.iconst 0, 1) := by decide +kernel
theorem dX4_field_93 : decode cX4_field 93 = .ok (.istore 9, 2) := by decide +kernel
theorem dX4_field_95 : decode cX4_field 95 = .ok (.iconst 1, 1) := by decide +kernel
theorem dX4_field_96 : decode cX4_field 96 = .ok (.istore 10, 2) := by decide +kernel
theorem dX4_field_98 : decode cX4_field 98 = .ok (.iload 10, 2) := by decide +kernel
theorem dX4_field_100 : decode cX4_field 100 = .ok (.iconst 5, 1) := by decide +kernel
theorem dX4_field_101 : decode cX4_field 101 = .ok (.if_icmp .ge 38, 3) := by decide +kernel
theorem dX4_field_104 : decode cX4_field 104 = .ok (.iload 10, 2) := by decide +kernel
theorem dX4_field_106 : decode cX4_field 106 = .ok (.lload_n 2, 1) := by decide +kernel
theorem dX4_field_107 : decode cX4_field 107 = .ok (.lload 4, 2) := by decide +kernel
theorem dX4_field_109 : decode cX4_field 109 = .ok (.invokestatic 126, 3) := by decide +kernel
theorem dX4_field_112 : decode cX4_field 112 = .ok (.iload 9, 2) := by decide +kernel
theorem dX4_field_114 : decode cX4_field 114 = .ok (.lload_n 2, 1) := by decide +kernel
theorem dX4_field_115 : decode cX4_field 115 = .ok (.lload 4, 2) := by decide +kernel
theorem dX4_field_117 : decode cX4_field 117 = .ok (.invokestatic 126, 3) := by decide +kernel
theorem dX4_field_120 : decode cX4_field 120 = .ok (.lcmp, 1) := by decide +kernel
theorem dX4_field_121 : decode cX4_field 121 = .ok (.ifCond .ge 8, 3) := by decide +kernel
theorem dX4_field_124 : decode cX4_field 124 = .ok (.iload 10, 2) := by decide +kernel
theorem dX4_field_126 : decode cX4_field 126 = .ok (.goto 5, 3) := by decide +kernel
theorem dX4_field_129 : decode cX4_field 129 = .ok (.iload 9, 2) := by decide +kernel
theorem dX4_field_131 : decode cX4_field 131 = .ok (.istore 9, 2) := by decide +kernel
theorem dX4_field_133 : decode cX4_field 133 = .ok (.iinc 10 1, 3) := by decide +kernel
theorem dX4_field_136 : decode cX4_field 136 = .ok (.goto (-38), 3) := by decide +kernel
theorem dX4_field_139 : decode cX4_field 139 = .ok (.aload_n 0, 1) := by decide +kernel
theorem dX4_field_140 : decode cX4_field 140 = .ok (.getfield 20, 3) := by decide +kernel
theorem dX4_field_143 : decode cX4_field 143 = .ok (.iload_n 1, 1) := by decide +kernel
theorem dX4_field_144 : decode cX4_field 144 = .ok (.baload, 1) := by decide +kernel
theorem dX4_field_145 : decode cX4_field 145 = .ok (.ifCond .eq 12, 3) := by decide +kernel
theorem dX4_field_148 : decode cX4_field 148 = .ok (.iload 8, 2) := by decide +kernel
theorem dX4_field_150 : decode cX4_field 150 = .ok (.ifCond .ne 7, 3) := by decide +kernel
theorem dX4_field_153 : decode cX4_field 153 = .ok (.iconst 1, 1) := by decide +kernel
theorem dX4_field_154 : decode cX4_field 154 = .ok (.goto 4, 3) := by decide +kernel
theorem dX4_field_157 : decode cX4_field 157 = .ok (.iconst 0, 1) := by decide +kernel
theorem dX4_field_158 : decode cX4_field 158 = .ok (.istore 10, 2) := by decide +kernel
theorem dX4_field_160 : decode cX4_field 160 = .ok (.aload_n 0, 1) := by decide +kernel
theorem dX4_field_161 : decode cX4_field 161 = .ok (.getfield 24, 3) := by decide +kernel
theorem dX4_field_164 : decode cX4_field 164 = .ok (.iload_n 1, 1) := by decide +kernel
theorem dX4_field_165 : decode cX4_field 165 = .ok (.iload 10, 2) := by decide +kernel
theorem dX4_field_167 : decode cX4_field 167 = .ok (.ifCond .eq 22, 3) := by decide +kernel
theorem dX4_field_170 : decode cX4_field 170 = .ok (.iload 9, 2) := by decide +kernel
theorem dX4_field_172 : decode cX4_field 172 = .ok (.lload_n 2, 1) := by decide +kernel
theorem dX4_field_173 : decode cX4_field 173 = .ok (.lload 4, 2) := by decide +kernel
theorem dX4_field_175 : decode cX4_field 175 = .ok (.invokestatic 126, 3) := by decide +kernel
theorem dX4_field_178 : decode cX4_field 178 = .ok (.ldc2_w 130, 3) := by decide +kernel
theorem dX4_field_181 : decode cX4_field 181 = .ok (.lcmp, 1) := by decide +kernel
theorem dX4_field_182 : decode cX4_field 182 = .ok (.ifCond .gt 7, 3) := by decide +kernel
theorem dX4_field_185 : decode cX4_field 185 = .ok (.iconst 1, 1) := by decide +kernel
theorem dX4_field_186 : decode cX4_field 186 = .ok (.goto 4, 3) := by decide +kernel
theorem dX4_field_189 : decode cX4_field 189 = .ok (.iconst 0, 1) := by decide +kernel
theorem dX4_field_190 : decode cX4_field 190 = .ok (.bastore, 1) := by decide +kernel
theorem dX4_field_191 : decode cX4_field 191 = .ok (.aload_n 0, 1) := by decide +kernel
theorem dX4_field_192 : decode cX4_field 192 = .ok (.getfield 27, 3) := by decide +kernel
theorem dX4_field_195 : decode cX4_field 195 = .ok (.iload_n 1, 1) := by decide +kernel
theorem dX4_field_196 : decode cX4_field 196 = .ok (.iload 10, 2) := by decide +kernel
theorem dX4_field_198 : decode cX4_field 198 = .ok (.ifCond .eq 41, 3) := by decide +kernel
theorem dX4_field_201 : decode cX4_field 201 = .ok (.lload_n 2, 1) := by decide +kernel
theorem dX4_field_202 : decode cX4_field 202 = .ok (.ldc2_w 132, 3) := by decide +kernel
theorem dX4_field_205 : decode cX4_field 205 = .ok (.lcmp, 1) := by decide +kernel
theorem dX4_field_206 : decode cX4_field 206 = .ok (.ifCond .lt 33, 3) := by decide +kernel
theorem dX4_field_209 : decode cX4_field 209 = .ok (.lload_n 2, 1) := by decide +kernel
theorem dX4_field_210 : decode cX4_field 210 = .ok (.ldc2_w 121, 3) := by decide +kernel
theorem dX4_field_213 : decode cX4_field 213 = .ok (.lcmp, 1) := by decide +kernel
theorem dX4_field_214 : decode cX4_field 214 = .ok (.ifCond .gt 25, 3) := by decide +kernel
theorem dX4_field_217 : decode cX4_field 217 = .ok (.lload 4, 2) := by decide +kernel
theorem dX4_field_219 : decode cX4_field 219 = .ok (.ldc2_w 134, 3) := by decide +kernel
theorem dX4_field_222 : decode cX4_field 222 = .ok (.lcmp, 1) := by decide +kernel
theorem dX4_field_223 : decode cX4_field 223 = .ok (.ifCond .lt 16, 3) := by decide +kernel
theorem dX4_field_226 : decode cX4_field 226 = .ok (.lload 4, 2) := by decide +kernel
theorem dX4_field_228 : decode cX4_field 228 = .ok (.ldc2_w 136, 3) := by decide +kernel
theorem dX4_field_231 : decode cX4_field 231 = .ok (.lcmp, 1) := by decide +kernel
theorem dX4_field_232 : decode cX4_field 232 = .ok (.ifCond .gt 7, 3) := by decide +kernel
theorem dX4_field_235 : decode cX4_field 235 = .ok (.iconst 1, 1) := by decide +kernel
theorem dX4_field_236 : decode cX4_field 236 = .ok (.goto 4, 3) := by decide +kernel
theorem dX4_field_239 : decode cX4_field 239 = .ok (.iconst 0, 1) := by decide +kernel
theorem dX4_field_240 : decode cX4_field 240 = .ok (.bastore, 1) := by decide +kernel
theorem dX4_field_241 : decode cX4_field 241 = .ok (.aload_n 0, 1) := by decide +kernel
theorem dX4_field_242 : decode cX4_field 242 = .ok (.getfield 24, 3) := by decide +kernel
theorem dX4_field_245 : decode cX4_field 245 = .ok (.iload_n 1, 1) := by decide +kernel
theorem dX4_field_246 : decode cX4_field 246 = .ok (.baload, 1) := by decide +kernel
theorem dX4_field_247 : decode cX4_field 247 = .ok (.ifCond .eq 27, 3) := by decide +kernel
theorem dX4_field_250 : decode cX4_field 250 = .ok (.aload_n 0, 1) := by decide +kernel
theorem dX4_field_251 : decode cX4_field 251 = .ok (.getfield 27, 3) := by decide +kernel
theorem dX4_field_254 : decode cX4_field 254 = .ok (.iload_n 1, 1) := by decide +kernel
theorem dX4_field_255 : decode cX4_field 255 = .ok (.baload, 1) := by decide +kernel
theorem dX4_field_256 : decode cX4_field 256 = .ok (.ifCond .ne 18, 3) := by decide +kernel
theorem dX4_field_259 : decode cX4_field 259 = .ok (.aload_n 0, 1) := by decide +kernel
theorem dX4_field_260 : decode cX4_field 260 = .ok (.iload 9, 2) := by decide +kernel
theorem dX4_field_262 : decode cX4_field 262 = .ok (.iload 9, 2) := by decide +kernel
theorem dX4_field_264 : decode cX4_field 264 = .ok (.iconst 1, 1) := by decide +kernel
theorem dX4_field_265 : decode cX4_field 265 = .ok (.iadd, 1) := by decide +kernel
theorem dX4_field_266 : decode cX4_field 266 = .ok (.iconst 3, 1) := by decide +kernel
theorem dX4_field_267 : decode cX4_field 267 = .ok (.iconst 0, 1) := by decide +kernel
theorem dX4_field_268 : decode cX4_field 268 = .ok (.invokevirtual 71, 3) := by decide +kernel
theorem dX4_field_271 : decode cX4_field 271 = .ok (.goto 4, 3) := by decide +kernel
theorem dX4_field_274 : decode cX4_field 274 = .ok (.iconst 0, 1) := by decide +kernel
theorem dX4_field_275 : decode cX4_field 275 = .ok (.istore 11, 2) := by decide +kernel
theorem dX4_field_277 : decode cX4_field 277 = .ok (.aload_n 0, 1) := by decide +kernel
theorem dX4_field_278 : decode cX4_field 278 = .ok (.getfield 24, 3) := by decide +kernel
theorem dX4_field_281 : decode cX4_field 281 = .ok (.iload_n 1, 1) := by decide +kernel
theorem dX4_field_282 : decode cX4_field 282 = .ok (.baload, 1) := by decide +kernel
theorem dX4_field_283 : decode cX4_field 283 = .ok (.ifCond .ne 12, 3) := by decide +kernel
theorem dX4_field_286 : decode cX4_field 286 = .ok (.aload_n 0, 1) := by decide +kernel
theorem dX4_field_287 : decode cX4_field 287 = .ok (.getfield 27, 3) := by decide +kernel
theorem dX4_field_290 : decode cX4_field 290 = .ok (.iload_n 1, 1) := by decide +kernel
theorem dX4_field_291 : decode cX4_field 291 = .ok (.baload, 1) := by decide +kernel
theorem dX4_field_292 : decode cX4_field 292 = .ok (.ifCond .eq 7, 3) := by decide +kernel
theorem dX4_field_295 : decode cX4_field 295 = .ok (.iconst 1, 1) := by decide +kernel
theorem dX4_field_296 : decode cX4_field 296 = .ok (.goto 4, 3) := by decide +kernel
theorem dX4_field_299 : decode cX4_field 299 = .ok (.iconst 0, 1) := by decide +kernel
theorem dX4_field_300 : decode cX4_field 300 = .ok (.ireturn, 1) := by decide +kernel
set_option maxRecDepth 20000 in
theorem ggX4_start_X4_none : GoodIn wsX4_start wsX4_none := goodIn_r _ [13, 14, 15, 21, 22, 23, 24, 25, 26, 27, 28, 29, 30, 31, 32, 33, 34, 35, 36, 37, 38, 39, 40] (by decide +kernel) (by decide +kernel)
set_option maxRecDepth 20000 in
theorem gX4_start_X4_none : GoodIn wsX4_start (wsV RX4 99 RX4 yX4_none wsX4_none) := goodIn_app (goodIn_of _ (by decide +kernel)) ggX4_start_X4_none
set_option maxRecDepth 20000 in
theorem ggX4_start_X4_rounds : GoodIn wsX4_start wsX4_rounds := goodIn_r _ [18, 5, 19, 20] (by decide +kernel) (by decide +kernel)
set_option maxRecDepth 20000 in
theorem gX4_start_X4_rounds : GoodIn wsX4_start (va_wsS RX4 56 yX4_rounds wsX4_rounds) := goodIn_app (goodIn_of _ (by decide +kernel)) ggX4_start_X4_rounds
theorem dX4_start_0 : decode cX4_start 0 = .ok (.aload_n 0, 1) := by decide +kernel
theorem dX4_start_1 : decode cX4_start 1 = .ok (.iload_n 1, 1) := by decide +kernel
theorem dX4_start_2 : decode cX4_start 2 = .ok (.invokevirtual 99, 3) := by decide +kernel
theorem dX4_start_5 : decode cX4_start 5 = .ok (.ifCond .eq 5, 3) := by decide +kernel
theorem dX4_start_8 : decode cX4_start 8 = .ok (.iconst (-1), 1) := by decide +kernel
theorem dX4_start_9 : decode cX4_start 9 = .ok (.ireturn, 1) := by decide +kernel
theorem dX4_start_10 : decode cX4_start 10 = .ok (.aload_n 0, 1) := by decide +kernel
theorem dX4_start_11 : decode cX4_start 11 = .ok (.dup, 1) := by decide +kernel
theorem dX4_start_12 : decode cX4_start 12 = .ok (.getfield 138, 3) := by decide +kernel
theorem dX4_start_15 : decode cX4_start 15 = .ok (.iconst 1, 1) := by decide +kernel
theorem dX4_start_16 : decode cX4_start 16 = .ok (.iadd, 1) := by decide +kernel
theorem dX4_start_17 : decode cX4_start 17 = .ok (.putfield 138, 3) := by decide +kernel
theorem dX4_start_20 : decode cX4_start 20 = .ok (.ldc2_w 141, 3) := by decide +kernel
theorem dX4_start_23 : decode cX4_start 23 = .ok (.aload_n 0, 1) := by decide +kernel
theorem dX4_start_24 : decode cX4_start 24 = .ok (.getfield 138, 3) := by decide +kernel
theorem dX4_start_27 : decode cX4_start 27 = .ok (.i2l, 1) := by decide +kernel
theorem dX4_start_28 : decode cX4_start 28 = .ok (.lmul, 1) := by decide +kernel
theorem dX4_start_29 : decode cX4_start 29 = .ok (.ldc2_w 143, 3) := by decide +kernel
theorem dX4_start_32 : decode cX4_start 32 = .ok (.land, 1) := by decide +kernel
theorem dX4_start_33 : decode cX4_start 33 = .ok (.lstore 4, 2) := by decide +kernel
theorem dX4_start_35 : decode cX4_start 35 = .ok (.aload_n 0, 1) := by decide +kernel
theorem dX4_start_36 : decode cX4_start 36 = .ok (.getfield 7, 3) := by decide +kernel
theorem dX4_start_39 : decode cX4_start 39 = .ok (.iload_n 1, 1) := by decide +kernel
theorem dX4_start_40 : decode cX4_start 40 = .ok (.laload, 1) := by decide +kernel
theorem dX4_start_41 : decode cX4_start 41 = .ok (.lload 4, 2) := by decide +kernel
theorem dX4_start_43 : decode cX4_start 43 = .ok (.bipush 16, 2) := by decide +kernel
theorem dX4_start_45 : decode cX4_start 45 = .ok (.lshr, 1) := by decide +kernel
theorem dX4_start_46 : decode cX4_start 46 = .ok (.l2i, 1) := by decide +kernel
theorem dX4_start_47 : decode cX4_start 47 = .ok (.lload 4, 2) := by decide +kernel
theorem dX4_start_49 : decode cX4_start 49 = .ok (.ldc2_w 52, 3) := by decide +kernel
theorem dX4_start_52 : decode cX4_start 52 = .ok (.land, 1) := by decide +kernel
theorem dX4_start_53 : decode cX4_start 53 = .ok (.l2i, 1) := by decide +kernel
theorem dX4_start_54 : decode cX4_start 54 = .ok (.iconst 0, 1) := by decide +kernel
theorem dX4_start_55 : decode cX4_start 55 = .ok (.invokestatic 56, 3) := by decide +kernel
theorem dX4_start_58 : decode cX4_start 58 = .ok (.i2l, 1) := by decide +kernel
theorem dX4_start_59 : decode cX4_start 59 = .ok (.ldc2_w 143, 3) := by decide +kernel
theorem dX4_start_62 : decode cX4_start 62 = .ok (.land, 1) := by decide +kernel
theorem dX4_start_63 : decode cX4_start 63 = .ok (.lstore 6, 2) := by decide +kernel
theorem dX4_start_65 : decode cX4_start 65 = .ok (.aload_n 0, 1) := by decide +kernel
theorem dX4_start_66 : decode cX4_start 66 = .ok (.getfield 20, 3) := by decide +kernel
theorem dX4_start_69 : decode cX4_start 69 = .ok (.iload_n 1, 1) := by decide +kernel
theorem dX4_start_70 : decode cX4_start 70 = .ok (.baload, 1) := by decide +kernel
theorem dX4_start_71 : decode cX4_start 71 = .ok (.ifCond .eq 19, 3) := by decide +kernel
theorem dX4_start_74 : decode cX4_start 74 = .ok (.aload_n 0, 1) := by decide +kernel
theorem dX4_start_75 : decode cX4_start 75 = .ok (.getfield 27, 3) := by decide +kernel
theorem dX4_start_78 : decode cX4_start 78 = .ok (.iload_n 1, 1) := by decide +kernel
theorem dX4_start_79 : decode cX4_start 79 = .ok (.baload, 1) := by decide +kernel
theorem dX4_start_80 : decode cX4_start 80 = .ok (.ifCond .eq 10, 3) := by decide +kernel
theorem dX4_start_83 : decode cX4_start 83 = .ok (.lload_n 2, 1) := by decide +kernel
theorem dX4_start_84 : decode cX4_start 84 = .ok (.lload 6, 2) := by decide +kernel
theorem dX4_start_86 : decode cX4_start 86 = .ok (.lcmp, 1) := by decide +kernel
theorem dX4_start_87 : decode cX4_start 87 = .ok (.ifCond .eq 5, 3) := by decide +kernel
theorem dX4_start_90 : decode cX4_start 90 = .ok (.iconst 0, 1) := by decide +kernel
theorem dX4_start_91 : decode cX4_start 91 = .ok (.ireturn, 1) := by decide +kernel
theorem dX4_start_92 : decode cX4_start 92 = .ok (.aload_n 0, 1) := by decide +kernel
theorem dX4_start_93 : decode cX4_start 93 = .ok (.iconst 0, 1) := by decide +kernel
theorem dX4_start_94 : decode cX4_start 94 = .ok (.putfield 75, 3) := by decide +kernel
theorem dX4_start_97 : decode cX4_start 97 = .ok (.iconst 1, 1) := by decide +kernel
theorem dX4_start_98 : decode cX4_start 98 = .ok (.ireturn, 1) := by decide +kernel
set_option maxRecDepth 20000 in
theorem ggX4_crash_X4_turn : GoodIn wsX4_crash wsX4_turn := goodIn_r _ [7, 8, 9, 10, 11, 12, 13, 6, 14, 15, 16, 17, 18, 19, 20, 21, 22, 23, 24, 25, 26, 27, 28, 29, 30, 31, 32, 33, 34] (by decide +kernel) (by decide +kernel)
set_option maxRecDepth 20000 in
theorem gX4_crash_X4_turn : GoodIn wsX4_crash (wsV RX4 71 RX4 yX4_turn wsX4_turn) := goodIn_app (goodIn_of _ (by decide +kernel)) ggX4_crash_X4_turn
theorem dX4_crash_0 : decode cX4_crash 0 = .ok (.aload_n 0, 1) := by decide +kernel
theorem dX4_crash_1 : decode cX4_crash 1 = .ok (.iconst 0, 1) := by decide +kernel
theorem dX4_crash_2 : decode cX4_crash 2 = .ok (.putfield 46, 3) := by decide +kernel
theorem dX4_crash_5 : decode cX4_crash 5 = .ok (.aload_n 0, 1) := by decide +kernel
theorem dX4_crash_6 : decode cX4_crash 6 = .ok (.iconst 1, 1) := by decide +kernel
theorem dX4_crash_7 : decode cX4_crash 7 = .ok (.putfield 75, 3) := by decide +kernel
theorem dX4_crash_10 : decode cX4_crash 10 = .ok (.aload_n 0, 1) := by decide +kernel
theorem dX4_crash_11 : decode cX4_crash 11 = .ok (.iconst 0, 1) := by decide +kernel
theorem dX4_crash_12 : decode cX4_crash 12 = .ok (.iconst 5, 1) := by decide +kernel
theorem dX4_crash_13 : decode cX4_crash 13 = .ok (.iconst 3, 1) := by decide +kernel
theorem dX4_crash_14 : decode cX4_crash 14 = .ok (.iconst 0, 1) := by decide +kernel
theorem dX4_crash_15 : decode cX4_crash 15 = .ok (.invokevirtual 71, 3) := by decide +kernel
theorem dX4_crash_18 : decode cX4_crash 18 = .ok (.ireturn, 1) := by decide +kernel
set_option maxRecDepth 20000 in
theorem ggX4_alarm_X4_some : GoodIn wsX4_alarm wsX4_some := goodIn_r _ [9, 10, 11, 12, 13, 14, 15, 16, 17, 18, 19, 20, 21, 22, 23, 24, 25, 26, 27, 28, 29, 30] (by decide +kernel) (by decide +kernel)
set_option maxRecDepth 20000 in
theorem gX4_alarm_X4_some : GoodIn wsX4_alarm (wsV RX4 60 RX4 yX4_some wsX4_some) := goodIn_app (goodIn_of _ (by decide +kernel)) ggX4_alarm_X4_some
theorem dX4_alarm_0 : decode cX4_alarm 0 = .ok (.aload_n 0, 1) := by decide +kernel
theorem dX4_alarm_1 : decode cX4_alarm 1 = .ok (.iconst 0, 1) := by decide +kernel
theorem dX4_alarm_2 : decode cX4_alarm 2 = .ok (.putfield 46, 3) := by decide +kernel
theorem dX4_alarm_5 : decode cX4_alarm 5 = .ok (.iload_n 1, 1) := by decide +kernel
theorem dX4_alarm_6 : decode cX4_alarm 6 = .ok (.ifCond .lt 9, 3) := by decide +kernel
theorem dX4_alarm_9 : decode cX4_alarm 9 = .ok (.iload_n 1, 1) := by decide +kernel
theorem dX4_alarm_10 : decode cX4_alarm 10 = .ok (.bipush 7, 2) := by decide +kernel
theorem dX4_alarm_12 : decode cX4_alarm 12 = .ok (.if_icmp .le 5, 3) := by decide +kernel
theorem dX4_alarm_15 : decode cX4_alarm 15 = .ok (.iconst (-1), 1) := by decide +kernel
theorem dX4_alarm_16 : decode cX4_alarm 16 = .ok (.ireturn, 1) := by decide +kernel
theorem dX4_alarm_17 : decode cX4_alarm 17 = .ok (.lload_n 2, 1) := by decide +kernel
theorem dX4_alarm_18 : decode cX4_alarm 18 = .ok (.aload_n 0, 1) := by decide +kernel
theorem dX4_alarm_19 : decode cX4_alarm 19 = .ok (.getfield 64, 3) := by decide +kernel
theorem dX4_alarm_22 : decode cX4_alarm 22 = .ok (.lcmp, 1) := by decide +kernel
theorem dX4_alarm_23 : decode cX4_alarm 23 = .ok (.ifCond .ge 6, 3) := by decide +kernel
theorem dX4_alarm_26 : decode cX4_alarm 26 = .ok (.bipush (-2), 2) := by decide +kernel
theorem dX4_alarm_28 : decode cX4_alarm 28 = .ok (.ireturn, 1) := by decide +kernel
theorem dX4_alarm_29 : decode cX4_alarm 29 = .ok (.aload_n 0, 1) := by decide +kernel
theorem dX4_alarm_30 : decode cX4_alarm 30 = .ok (.lload_n 2, 1) := by decide +kernel
theorem dX4_alarm_31 : decode cX4_alarm 31 = .ok (.putfield 64, 3) := by decide +kernel
theorem dX4_alarm_34 : decode cX4_alarm 34 = .ok (.aload_n 0, 1) := by decide +kernel
theorem dX4_alarm_35 : decode cX4_alarm 35 = .ok (.iconst 0, 1) := by decide +kernel
theorem dX4_alarm_36 : decode cX4_alarm 36 = .ok (.invokevirtual 60, 3) := by decide +kernel
theorem dX4_alarm_39 : decode cX4_alarm 39 = .ok (.ifCond .ne 23, 3) := by decide +kernel
theorem dX4_alarm_42 : decode cX4_alarm 42 = .ok (.aload_n 0, 1) := by decide +kernel
theorem dX4_alarm_43 : decode cX4_alarm 43 = .ok (.getfield 64, 3) := by decide +kernel
theorem dX4_alarm_46 : decode cX4_alarm 46 = .ok (.aload_n 0, 1) := by decide +kernel
theorem dX4_alarm_47 : decode cX4_alarm 47 = .ok (.getfield 68, 3) := by decide +kernel
theorem dX4_alarm_50 : decode cX4_alarm 50 = .ok (.lsub, 1) := by decide +kernel
theorem dX4_alarm_51 : decode cX4_alarm 51 = .ok (.ldc2_w 145, 3) := by decide +kernel
theorem dX4_alarm_54 : decode cX4_alarm 54 = .ok (.lcmp, 1) := by decide +kernel
theorem dX4_alarm_55 : decode cX4_alarm 55 = .ok (.ifCond .le 7, 3) := by decide +kernel
theorem dX4_alarm_58 : decode cX4_alarm 58 = .ok (.iconst 1, 1) := by decide +kernel
theorem dX4_alarm_59 : decode cX4_alarm 59 = .ok (.goto 4, 3) := by decide +kernel
theorem dX4_alarm_62 : decode cX4_alarm 62 = .ok (.iconst 0, 1) := by decide +kernel
theorem dX4_alarm_63 : decode cX4_alarm 63 = .ok (.ireturn, 1) := by decide +kernel
set_option maxRecDepth 20000 in
theorem ggX4_battery_X4_none : GoodIn wsX4_battery wsX4_none := goodIn_r _ [6, 7, 8, 9, 10, 11, 12, 13, 14, 15, 16, 17, 18, 19, 20, 21, 22, 23, 24, 25, 26, 27, 28] (by decide +kernel) (by decide +kernel)
set_option maxRecDepth 20000 in
theorem gX4_battery_X4_none : GoodIn wsX4_battery (wsV RX4 99 RX4 yX4_none wsX4_none) := goodIn_app (goodIn_of _ (by decide +kernel)) ggX4_battery_X4_none
theorem dX4_battery_0 : decode cX4_battery 0 = .ok (.aload_n 0, 1) := by decide +kernel
theorem dX4_battery_1 : decode cX4_battery 1 = .ok (.iload_n 1, 1) := by decide +kernel
theorem dX4_battery_2 : decode cX4_battery 2 = .ok (.invokevirtual 99, 3) := by decide +kernel
theorem dX4_battery_5 : decode cX4_battery 5 = .ok (.ifCond .eq 7, 3) := by decide +kernel
theorem dX4_battery_8 : decode cX4_battery 8 = .ok (.iconst (-1), 1) := by decide +kernel
theorem dX4_battery_9 : decode cX4_battery 9 = .ok (.goto 9, 3) := by decide +kernel
theorem dX4_battery_12 : decode cX4_battery 12 = .ok (.aload_n 0, 1) := by decide +kernel
theorem dX4_battery_13 : decode cX4_battery 13 = .ok (.getfield 30, 3) := by decide +kernel
theorem dX4_battery_16 : decode cX4_battery 16 = .ok (.iload_n 1, 1) := by decide +kernel
theorem dX4_battery_17 : decode cX4_battery 17 = .ok (.iaload, 1) := by decide +kernel
theorem dX4_battery_18 : decode cX4_battery 18 = .ok (.ireturn, 1) := by decide +kernel
theorem dX4_octet_0 : decode cX4_octet 0 = .ok (.aload_n 0, 1) := by decide +kernel
theorem dX4_octet_1 : decode cX4_octet 1 = .ok (.iload_n 1, 1) := by decide +kernel
theorem dX4_octet_2 : decode cX4_octet 2 = .ok (.ifCond .lt 11, 3) := by decide +kernel
theorem dX4_octet_5 : decode cX4_octet 5 = .ok (.iload_n 1, 1) := by decide +kernel
theorem dX4_octet_6 : decode cX4_octet 6 = .ok (.aload_n 0, 1) := by decide +kernel
theorem dX4_octet_7 : decode cX4_octet 7 = .ok (.getfield 82, 3) := by decide +kernel
theorem dX4_octet_10 : decode cX4_octet 10 = .ok (.if_icmp .lt 7, 3) := by decide +kernel
theorem dX4_octet_13 : decode cX4_octet 13 = .ok (.iconst 1, 1) := by decide +kernel
theorem dX4_octet_14 : decode cX4_octet 14 = .ok (.goto 4, 3) := by decide +kernel
theorem dX4_octet_17 : decode cX4_octet 17 = .ok (.iconst 0, 1) := by decide +kernel
theorem dX4_octet_18 : decode cX4_octet 18 = .ok (.putfield 46, 3) := by decide +kernel
theorem dX4_octet_21 : decode cX4_octet 21 = .ok (.aload_n 0, 1) := by decide +kernel
theorem dX4_octet_22 : decode cX4_octet 22 = .ok (.getfield 46, 3) := by decide +kernel
theorem dX4_octet_25 : decode cX4_octet 25 = .ok (.ifCond .le 7, 3) := by decide +kernel
theorem dX4_octet_28 : decode cX4_octet 28 = .ok (.iconst 0, 1) := by decide +kernel
theorem dX4_octet_29 : decode cX4_octet 29 = .ok (.goto 10, 3) := by decide +kernel
theorem dX4_octet_32 : decode cX4_octet 32 = .ok (.aload_n 0, 1) := by decide +kernel
theorem dX4_octet_33 : decode cX4_octet 33 = .ok (.getfield 39, 3) := by decide +kernel
theorem dX4_octet_36 : decode cX4_octet 36 = .ok (.iload_n 1, 1) := by decide +kernel
theorem dX4_octet_37 : decode cX4_octet 37 = .ok (.iaload, 1) := by decide +kernel
theorem dX4_octet_38 : decode cX4_octet 38 = .ok (.i2b, 1) := by decide +kernel
theorem dX4_octet_39 : decode cX4_octet 39 = .ok (.ireturn, 1) := by decide +kernel
theorem dX4_state_0 : decode cX4_state 0 = .ok (.aload_n 0, 1) := by decide +kernel
theorem dX4_state_1 : decode cX4_state 1 = .ok (.iconst 0, 1) := by decide +kernel
theorem dX4_state_2 : decode cX4_state 2 = .ok (.putfield 46, 3) := by decide +kernel
theorem dX4_state_5 : decode cX4_state 5 = .ok (.iload_n 1, 1) := by decide +kernel
theorem dX4_state_6 : decode cX4_state 6 = .ok (.ifCond .lt 9, 3) := by decide +kernel
theorem dX4_state_9 : decode cX4_state 9 = .ok (.iload_n 1, 1) := by decide +kernel
theorem dX4_state_10 : decode cX4_state 10 = .ok (.bipush 6, 2) := by decide +kernel
theorem dX4_state_12 : decode cX4_state 12 = .ok (.if_icmp .le 5, 3) := by decide +kernel
theorem dX4_state_15 : decode cX4_state 15 = .ok (.iconst (-1), 1) := by decide +kernel
theorem dX4_state_16 : decode cX4_state 16 = .ok (.ireturn, 1) := by decide +kernel
theorem dX4_state_17 : decode cX4_state 17 = .ok (.iload_n 1, 1) := by decide +kernel
theorem dX4_state_18 : decode cX4_state 18 = .ok (.iconst 5, 1) := by decide +kernel
theorem dX4_state_19 : decode cX4_state 19 = .ok (.if_icmp .ne 10, 3) := by decide +kernel
theorem dX4_state_22 : decode cX4_state 22 = .ok (.aload_n 0, 1) := by decide +kernel
theorem dX4_state_23 : decode cX4_state 23 = .ok (.getfield 123, 3) := by decide +kernel
theorem dX4_state_26 : decode cX4_state 26 = .ok (.goto 22, 3) := by decide +kernel
theorem dX4_state_29 : decode cX4_state 29 = .ok (.iload_n 1, 1) := by decide +kernel
theorem dX4_state_30 : decode cX4_state 30 = .ok (.bipush 6, 2) := by decide +kernel
theorem dX4_state_32 : decode cX4_state 32 = .ok (.if_icmp .ne 10, 3) := by decide +kernel
theorem dX4_state_35 : decode cX4_state 35 = .ok (.aload_n 0, 1) := by decide +kernel
theorem dX4_state_36 : decode cX4_state 36 = .ok (.getfield 138, 3) := by decide +kernel
theorem dX4_state_39 : decode cX4_state 39 = .ok (.goto 9, 3) := by decide +kernel
theorem dX4_state_42 : decode cX4_state 42 = .ok (.aload_n 0, 1) := by decide +kernel
theorem dX4_state_43 : decode cX4_state 43 = .ok (.getfield 33, 3) := by decide +kernel
theorem dX4_state_46 : decode cX4_state 46 = .ok (.iload_n 1, 1) := by decide +kernel
theorem dX4_state_47 : decode cX4_state 47 = .ok (.iaload, 1) := by decide +kernel
theorem dX4_state_48 : decode cX4_state 48 = .ok (.ireturn, 1) := by decide +kernel
theorem dJx00060_init_da8c8_0 : decode cJx00060_init_da8c8 0 = .ok (.aload_n 0, 1) := by decide +kernel
theorem dJx00060_init_da8c8_1 : decode cJx00060_init_da8c8 1 = .ok (.invokespecial 1, 3) := by decide +kernel
theorem dJx00060_init_da8c8_4 : decode cJx00060_init_da8c8 4 = .ok (.return_, 1) := by decide +kernel
theorem dL_cell_0 : decode cL_cell 0 = .ok (.iload_n 1, 1) := by decide +kernel
theorem dL_cell_1 : decode cL_cell 1 = .ok (.aload_n 0, 1) := by decide +kernel
theorem dL_cell_2 : decode cL_cell 2 = .ok (.arraylength, 1) := by decide +kernel
theorem dL_cell_3 : decode cL_cell 3 = .ok (.if_icmp .ge 9, 3) := by decide +kernel
theorem dL_cell_6 : decode cL_cell 6 = .ok (.aload_n 0, 1) := by decide +kernel
theorem dL_cell_7 : decode cL_cell 7 = .ok (.iload_n 1, 1) := by decide +kernel
theorem dL_cell_8 : decode cL_cell 8 = .ok (.iaload, 1) := by decide +kernel
theorem dL_cell_9 : decode cL_cell 9 = .ok (.goto 4, 3) := by decide +kernel
theorem dL_cell_12 : decode cL_cell 12 = .ok (.iconst 0, 1) := by decide +kernel
theorem dL_cell_13 : decode cL_cell 13 = .ok (.ireturn, 1) := by decide +kernel
set_option maxRecDepth 20000 in
theorem ggL_octet_X3_octet : GoodIn wsL_octet wsX3_octet := goodIn_r _ [5, 6, 7, 8, 9, 10, 11, 12, 13, 14, 15, 16, 17, 18, 19, 20, 21, 22, 23, 24, 25, 26, 27, 28, 29, 30, 31, 32, 33, 34] (by decide +kernel) (by decide +kernel)
set_option maxRecDepth 20000 in
theorem gL_octet_X3_octet : GoodIn wsL_octet (wsV RL 7 RX3 yX3_octet wsX3_octet) := goodIn_app (goodIn_of _ (by decide +kernel)) ggL_octet_X3_octet
theorem dL_octet_0 : decode cL_octet 0 = .ok (.aload_n 2, 1) := by decide +kernel
theorem dL_octet_1 : decode cL_octet 1 = .ok (.iconst 0, 1) := by decide +kernel
theorem dL_octet_2 : decode cL_octet 2 = .ok (.aload_n 0, 1) := by decide +kernel
theorem dL_octet_3 : decode cL_octet 3 = .ok (.iload_n 1, 1) := by decide +kernel
theorem dL_octet_4 : decode cL_octet 4 = .ok (.invokevirtual 7, 3) := by decide +kernel
theorem dL_octet_7 : decode cL_octet 7 = .ok (.i2l, 1) := by decide +kernel
theorem dL_octet_8 : decode cL_octet 8 = .ok (.lastore, 1) := by decide +kernel
theorem dL_octet_9 : decode cL_octet 9 = .ok (.goto 6, 3) := by decide +kernel
theorem dL_octet_12 : decode cL_octet 12 = .ok (.astore_n 3, 1) := by decide +kernel
theorem dL_octet_13 : decode cL_octet 13 = .ok (.iconst 1, 1) := by decide +kernel
theorem dL_octet_14 : decode cL_octet 14 = .ok (.ireturn, 1) := by decide +kernel
theorem dL_octet_15 : decode cL_octet 15 = .ok (.iconst 0, 1) := by decide +kernel
theorem dL_octet_16 : decode cL_octet 16 = .ok (.ireturn, 1) := by decide +kernel
set_option maxRecDepth 20000 in
theorem ggL_law_L_cell : GoodIn wsL_law wsL_cell := goodIn_r _ [11] (by decide +kernel) (by decide +kernel)
set_option maxRecDepth 20000 in
theorem gL_law_L_cell : GoodIn wsL_law (va_wsS RL 15 yL_cell wsL_cell) := goodIn_app (goodIn_of _ (by decide +kernel)) ggL_law_L_cell
set_option maxRecDepth 20000 in
theorem ggL_law_X3_init : GoodIn wsL_law wsX3_init := goodIn_r _ [14, 15, 16, 17, 18, 19, 20, 21, 22, 23, 24, 25, 26, 27, 28, 29, 30, 31, 32, 33, 34, 35, 36, 37, 38, 39, 40, 41, 433, 434, 435, 436, 437, 438, 439, 440, 441, 462, 463, 464, 465, 466] (by decide +kernel) (by decide +kernel)
set_option maxRecDepth 20000 in
theorem gL_law_X3_init : GoodIn wsL_law (wsX3_init) := ggL_law_X3_init
set_option maxRecDepth 20000 in
theorem ggL_law_X4_init : GoodIn wsL_law wsX4_init := goodIn_r _ [44, 45, 16, 17, 6, 46, 40, 47, 48, 49, 50, 51, 52, 53, 54, 55, 56, 57, 442, 443, 444, 445, 446, 447, 448, 449, 450, 451, 452, 453, 454, 455, 456, 457, 458, 459, 460, 461] (by decide +kernel) (by decide +kernel)
set_option maxRecDepth 20000 in
theorem gL_law_X4_init : GoodIn wsL_law (wsX4_init) := ggL_law_X4_init
set_option maxRecDepth 20000 in
theorem ggL_law_X3_key : GoodIn wsL_law wsX3_key := goodIn_r _ [61, 62, 63, 20, 19, 64, 65, 66, 67, 68, 2, 69, 70, 71, 72, 73, 74, 75, 76, 77, 78, 16, 17, 79, 80, 81, 82, 433, 434, 435, 436, 437, 438, 439, 440, 441, 467, 468, 469, 470, 471, 472, 473] (by decide +kernel) (by decide +kernel)
set_option maxRecDepth 20000 in
theorem gL_law_X3_key : GoodIn wsL_law (wsV RL 29 RX3 yX3_key wsX3_key) := goodIn_app (goodIn_of _ (by decide +kernel)) ggL_law_X3_key
set_option maxRecDepth 20000 in
theorem ggL_law_X4_key : GoodIn wsL_law wsX4_key := goodIn_r _ [86, 87, 88, 89, 46, 47, 48, 50, 442, 443, 444, 445, 446, 447, 448, 449, 450, 451, 452, 453, 454, 455, 456, 457, 458, 459, 460, 461] (by decide +kernel) (by decide +kernel)
set_option maxRecDepth 20000 in
theorem gL_law_X4_key : GoodIn wsL_law (wsV RL 33 RX4 yX4_key wsX4_key) := goodIn_app (goodIn_of _ (by decide +kernel)) ggL_law_X4_key
set_option maxRecDepth 20000 in
theorem ggL_law_X3_remote : GoodIn wsL_law wsX3_remote := goodIn_r _ [93, 24, 25, 94, 95, 96, 23, 97, 98, 35, 99, 100, 101, 102, 103, 104, 105, 2, 106, 107, 108, 18, 109, 110, 111, 112, 113, 114, 115, 116, 117, 118, 119, 120, 121, 122, 123, 124, 125, 126, 127, 128, 129, 71, 72, 73, 74, 63, 20, 130, 131, 132, 133, 134, 135, 136, 137, 65, 138, 139, 140, 141, 142, 143, 144, 145, 146, 147, 148, 79, 149, 150, 151, 152, 153, 154, 155, 156, 157, 158, 159, 160, 80, 161, 81, 162, 163, 164, 165, 166, 167, 168, 169, 29, 170, 171, 172, 173, 28, 174, 175, 176, 177, 178, 41, 179, 180, 181, 182, 183, 184, 185, 186, 187, 188, 189, 190, 191, 192, 193, 194, 195, 196, 197, 198, 199, 200, 201, 202, 203, 204, 205, 206, 207, 208, 209, 210, 211, 212, 433, 434, 435, 436, 437, 438, 439, 440, 441, 462, 463, 467, 468, 469, 470, 471, 472, 473, 464, 465, 466] (by decide +kernel) (by decide +kernel)
set_option maxRecDepth 20000 in
theorem gL_law_X3_remote : GoodIn wsL_law (wsV RL 34 RX3 yX3_remote wsX3_remote) := goodIn_app (goodIn_of _ (by decide +kernel)) ggL_law_X3_remote
set_option maxRecDepth 20000 in
theorem ggL_law_X4_remote : GoodIn wsL_law wsX4_remote := goodIn_r _ [216, 87, 217, 55, 218, 56, 89, 50, 46, 219, 47, 220, 48, 221, 57, 53, 222, 223, 5, 224, 225, 226, 227, 88, 228, 229, 230, 231, 232, 233, 234, 235, 236, 237, 238, 239, 240, 54, 241, 242, 243, 244, 245, 246, 442, 443, 444, 445, 446, 447, 448, 449, 450, 451, 452, 453, 454, 455, 456, 457, 458, 459, 460, 461] (by decide +kernel) (by decide +kernel)
set_option maxRecDepth 20000 in
theorem gL_law_X4_remote : GoodIn wsL_law (wsV RL 38 RX4 yX4_remote wsX4_remote) := goodIn_app (goodIn_of _ (by decide +kernel)) ggL_law_X4_remote
set_option maxRecDepth 20000 in
theorem ggL_law_X3_counter : GoodIn wsL_law wsX3_counter := goodIn_r _ [250, 251, 252, 71, 72, 73, 2, 74, 63, 20, 467, 468, 469, 470, 471, 472, 473, 433, 434, 435, 436, 437, 438, 439, 440, 441] (by decide +kernel) (by decide +kernel)
set_option maxRecDepth 20000 in
theorem gL_law_X3_counter : GoodIn wsL_law (wsV RL 39 RX3 yX3_counter wsX3_counter) := goodIn_app (goodIn_of _ (by decide +kernel)) ggL_law_X3_counter
set_option maxRecDepth 20000 in
theorem ggL_law_X4_counter : GoodIn wsL_law wsX4_counter := goodIn_r _ [256, 257, 47, 258, 259, 260, 5, 261, 87, 89, 442, 443, 444, 445, 446, 447, 448, 449, 450, 451, 452, 453, 454, 455, 456, 457, 458, 459, 460, 461] (by decide +kernel) (by decide +kernel)
set_option maxRecDepth 20000 in
theorem gL_law_X4_counter : GoodIn wsL_law (wsV RL 43 RX4 yX4_counter wsX4_counter) := goodIn_app (goodIn_of _ (by decide +kernel)) ggL_law_X4_counter
set_option maxRecDepth 20000 in
theorem ggL_law_X3_lock : GoodIn wsL_law wsX3_lock := goodIn_r _ [265, 29, 170, 266, 206, 207, 28, 208, 41, 171, 172, 173, 174, 175, 176, 177, 178, 209, 210, 211, 212, 205, 267, 268, 269, 270, 183, 184, 185, 186, 187, 188, 189, 190, 191, 192, 193, 194, 199, 200, 201, 202, 203, 204, 195, 196, 197, 198, 433, 434, 435, 436, 437, 438, 439, 440, 441, 464, 465, 466] (by decide +kernel) (by decide +kernel)
set_option maxRecDepth 20000 in
theorem gL_law_X3_lock : GoodIn wsL_law (wsV RL 44 RX3 yX3_lock wsX3_lock) := goodIn_app (goodIn_of _ (by decide +kernel)) ggL_law_X3_lock
set_option maxRecDepth 20000 in
theorem ggL_law_X4_lock : GoodIn wsL_law wsX4_lock := goodIn_r _ [274, 87, 236, 237, 238, 239, 5, 240, 54, 241, 242, 243, 244, 245, 246, 442, 443, 444, 445, 446, 447, 448, 449, 450, 451, 452, 453, 454, 455, 456, 457, 458, 459, 460, 461] (by decide +kernel) (by decide +kernel)
set_option maxRecDepth 20000 in
theorem gL_law_X4_lock : GoodIn wsL_law (wsV RL 48 RX4 yX4_lock wsX4_lock) := goodIn_app (goodIn_of _ (by decide +kernel)) ggL_law_X4_lock
set_option maxRecDepth 20000 in
theorem ggL_law_X3_learn : GoodIn wsL_law wsX3_learn := goodIn_r _ [278, 107, 71, 72, 73, 2, 74, 63, 20, 279, 280, 281, 65, 282, 82, 283, 284, 285, 286, 287, 288, 467, 468, 469, 470, 471, 472, 473, 433, 434, 435, 436, 437, 438, 439, 440, 441] (by decide +kernel) (by decide +kernel)
set_option maxRecDepth 20000 in
theorem gL_law_X3_learn : GoodIn wsL_law (wsV RL 49 RX3 yX3_learn wsX3_learn) := goodIn_app (goodIn_of _ (by decide +kernel)) ggL_law_X3_learn
set_option maxRecDepth 20000 in
theorem ggL_law_X4_learn : GoodIn wsL_law wsX4_learn := goodIn_r _ [292, 50, 258, 259, 260, 5, 261, 87, 89, 293, 294, 295, 296, 51, 52, 442, 443, 444, 445, 446, 447, 448, 449, 450, 451, 452, 453, 454, 455, 456, 457, 458, 459, 460, 461] (by decide +kernel) (by decide +kernel)
set_option maxRecDepth 20000 in
theorem gL_law_X4_learn : GoodIn wsL_law (wsV RL 53 RX4 yX4_learn wsX4_learn) := goodIn_app (goodIn_of _ (by decide +kernel)) ggL_law_X4_learn
set_option maxRecDepth 20000 in
theorem ggL_law_X3_erase : GoodIn wsL_law wsX3_erase := goodIn_r _ [300, 107, 301, 302, 71, 72, 73, 2, 74, 63, 20, 303, 304, 305, 306, 467, 468, 469, 470, 471, 472, 473, 433, 434, 435, 436, 437, 438, 439, 440, 441] (by decide +kernel) (by decide +kernel)
set_option maxRecDepth 20000 in
theorem gL_law_X3_erase : GoodIn wsL_law (wsV RL 54 RX3 yX3_erase wsX3_erase) := goodIn_app (goodIn_of _ (by decide +kernel)) ggL_law_X3_erase
set_option maxRecDepth 20000 in
theorem ggL_law_X4_erase : GoodIn wsL_law wsX4_erase := goodIn_r _ [310, 89, 50, 51, 52, 258, 259, 260, 5, 261, 87, 442, 443, 444, 445, 446, 447, 448, 449, 450, 451, 452, 453, 454, 455, 456, 457, 458, 459, 460, 461] (by decide +kernel) (by decide +kernel)
set_option maxRecDepth 20000 in
theorem gL_law_X4_erase : GoodIn wsL_law (wsV RL 57 RX4 yX4_erase wsX4_erase) := goodIn_app (goodIn_of _ (by decide +kernel)) ggL_law_X4_erase
set_option maxRecDepth 20000 in
theorem ggL_law_X3_field : GoodIn wsL_law wsX3_field := goodIn_r _ [314, 315, 316, 317, 107, 29, 301, 318, 302, 71, 72, 73, 2, 74, 63, 20, 319, 320, 321, 322, 323, 324, 28, 325, 326, 327, 328, 329, 330, 331, 332, 191, 192, 193, 194, 41, 187, 188, 189, 190, 333, 284, 285, 65, 286, 287, 288, 433, 434, 435, 436, 437, 438, 439, 440, 441, 467, 468, 469, 470, 471, 472, 473, 464, 465, 466] (by decide +kernel) (by decide +kernel)
set_option maxRecDepth 20000 in
theorem gL_law_X3_field : GoodIn wsL_law (wsV RL 58 RX3 yX3_field wsX3_field) := goodIn_app (goodIn_of _ (by decide +kernel)) ggL_law_X3_field
set_option maxRecDepth 20000 in
theorem ggL_law_X4_field : GoodIn wsL_law wsX4_field := goodIn_r _ [337, 338, 339, 340, 341, 50, 51, 342, 52, 343, 344, 345, 258, 259, 260, 5, 261, 87, 89, 346, 347, 348, 349, 350, 351, 352, 353, 237, 238, 239, 240, 54, 241, 242, 243, 244, 245, 246, 442, 443, 444, 445, 446, 447, 448, 449, 450, 451, 452, 453, 454, 455, 456, 457, 458, 459, 460, 461] (by decide +kernel) (by decide +kernel)
set_option maxRecDepth 20000 in
theorem gL_law_X4_field : GoodIn wsL_law (wsV RL 62 RX4 yX4_field wsX4_field) := goodIn_app (goodIn_of _ (by decide +kernel)) ggL_law_X4_field
set_option maxRecDepth 20000 in
theorem ggL_law_X3_start : GoodIn wsL_law wsX3_start := goodIn_r _ [357, 358, 359, 360, 107, 302, 170, 71, 72, 73, 2, 74, 63, 20, 361, 362, 363, 65, 364, 139, 140, 141, 142, 143, 144, 145, 146, 147, 148, 79, 149, 150, 151, 152, 433, 434, 435, 436, 437, 438, 439, 440, 441, 467, 468, 469, 470, 471, 472, 473] (by decide +kernel) (by decide +kernel)
set_option maxRecDepth 20000 in
theorem gL_law_X3_start : GoodIn wsL_law (wsV RL 63 RX3 yX3_start wsX3_start) := goodIn_app (goodIn_of _ (by decide +kernel)) ggL_law_X3_start
set_option maxRecDepth 20000 in
theorem ggL_law_X4_start : GoodIn wsL_law wsX4_start := goodIn_r _ [368, 369, 370, 371, 46, 88, 50, 52, 236, 258, 259, 260, 5, 261, 87, 89, 225, 226, 227, 228, 219, 442, 443, 444, 445, 446, 447, 448, 449, 450, 451, 452, 453, 454, 455, 456, 457, 458, 459, 460, 461] (by decide +kernel) (by decide +kernel)
set_option maxRecDepth 20000 in
theorem gL_law_X4_start : GoodIn wsL_law (wsV RL 67 RX4 yX4_start wsX4_start) := goodIn_app (goodIn_of _ (by decide +kernel)) ggL_law_X4_start
set_option maxRecDepth 20000 in
theorem ggL_law_X3_crash : GoodIn wsL_law wsX3_crash := goodIn_r _ [375, 170, 29, 171, 172, 173, 28, 174, 175, 176, 177, 178, 41, 433, 434, 435, 436, 437, 438, 439, 440, 441, 464, 465, 466] (by decide +kernel) (by decide +kernel)
set_option maxRecDepth 20000 in
theorem gL_law_X3_crash : GoodIn wsL_law (wsV RL 68 RX3 yX3_crash wsX3_crash) := goodIn_app (goodIn_of _ (by decide +kernel)) ggL_law_X3_crash
set_option maxRecDepth 20000 in
theorem ggL_law_X4_crash : GoodIn wsL_law wsX4_crash := goodIn_r _ [379, 87, 236, 237, 238, 239, 5, 240, 54, 241, 242, 243, 244, 245, 246, 442, 443, 444, 445, 446, 447, 448, 449, 450, 451, 452, 453, 454, 455, 456, 457, 458, 459, 460, 461] (by decide +kernel) (by decide +kernel)
set_option maxRecDepth 20000 in
theorem gL_law_X4_crash : GoodIn wsL_law (wsV RL 72 RX4 yX4_crash wsX4_crash) := goodIn_app (goodIn_of _ (by decide +kernel)) ggL_law_X4_crash
set_option maxRecDepth 20000 in
theorem ggL_law_X3_alarm : GoodIn wsL_law wsX3_alarm := goodIn_r _ [383, 29, 384, 385, 386, 387, 28, 388, 203, 204, 389, 205, 206, 207, 208, 41, 433, 434, 435, 436, 437, 438, 439, 440, 441, 464, 465, 466] (by decide +kernel) (by decide +kernel)
set_option maxRecDepth 20000 in
theorem gL_law_X3_alarm : GoodIn wsL_law (wsV RL 73 RX3 yX3_alarm wsX3_alarm) := goodIn_app (goodIn_of _ (by decide +kernel)) ggL_law_X3_alarm
set_option maxRecDepth 20000 in
theorem ggL_law_X4_alarm : GoodIn wsL_law wsX4_alarm := goodIn_r _ [393, 87, 241, 242, 394, 243, 244, 245, 5, 246, 54, 442, 443, 444, 445, 446, 447, 448, 449, 450, 451, 452, 453, 454, 455, 456, 457, 458, 459, 460, 461] (by decide +kernel) (by decide +kernel)
set_option maxRecDepth 20000 in
theorem gL_law_X4_alarm : GoodIn wsL_law (wsV RL 76 RX4 yX4_alarm wsX4_alarm) := goodIn_app (goodIn_of _ (by decide +kernel)) ggL_law_X4_alarm
set_option maxRecDepth 20000 in
theorem ggL_law_X3_battery : GoodIn wsL_law wsX3_battery := goodIn_r _ [398, 109, 71, 72, 73, 2, 74, 63, 20, 467, 468, 469, 470, 471, 472, 473, 433, 434, 435, 436, 437, 438, 439, 440, 441] (by decide +kernel) (by decide +kernel)
set_option maxRecDepth 20000 in
theorem gL_law_X3_battery : GoodIn wsL_law (wsV RL 77 RX3 yX3_battery wsX3_battery) := goodIn_app (goodIn_of _ (by decide +kernel)) ggL_law_X3_battery
set_option maxRecDepth 20000 in
theorem ggL_law_X4_battery : GoodIn wsL_law wsX4_battery := goodIn_r _ [402, 53, 258, 259, 260, 5, 261, 87, 89, 442, 443, 444, 445, 446, 447, 448, 449, 450, 451, 452, 453, 454, 455, 456, 457, 458, 459, 460, 461] (by decide +kernel) (by decide +kernel)
set_option maxRecDepth 20000 in
theorem gL_law_X4_battery : GoodIn wsL_law (wsV RL 80 RX4 yX4_battery wsX4_battery) := goodIn_app (goodIn_of _ (by decide +kernel)) ggL_law_X4_battery
set_option maxRecDepth 20000 in
theorem ggL_law_L_octet : GoodIn wsL_law wsL_octet := goodIn_r _ [405, 406, 407, 408, 2, 409, 25, 410, 411, 412, 413, 414, 119, 120, 23, 121, 98, 35, 433, 434, 435, 436, 437, 438, 439, 440, 441, 474, 475, 476, 477, 478, 479, 462, 463] (by decide +kernel) (by decide +kernel)
set_option maxRecDepth 20000 in
theorem gL_law_L_octet : GoodIn wsL_law (va_wsS RL 81 yL_octet wsL_octet) := goodIn_app (goodIn_of _ (by decide +kernel)) ggL_law_L_octet
set_option maxRecDepth 20000 in
theorem ggL_law_X4_octet : GoodIn wsL_law wsX4_octet := goodIn_r _ [418, 218, 87, 56, 442, 443, 444, 445, 446, 447, 448, 449, 450, 451, 452, 453, 454, 455, 456, 457, 458, 459, 460, 461] (by decide +kernel) (by decide +kernel)
set_option maxRecDepth 20000 in
theorem gL_law_X4_octet : GoodIn wsL_law (wsV RL 84 RX4 yX4_octet wsX4_octet) := goodIn_app (goodIn_of _ (by decide +kernel)) ggL_law_X4_octet
set_option maxRecDepth 20000 in
theorem ggL_law_X4_thrown : GoodIn wsL_law wsX4_thrown := goodIn_r _ [422, 87, 442, 443, 444, 445, 446, 447, 448, 449, 450, 451, 452, 453, 454, 455, 456, 457, 458, 459, 460, 461] (by decide +kernel) (by decide +kernel)
set_option maxRecDepth 20000 in
theorem gL_law_X4_thrown : GoodIn wsL_law (wsV RL 85 RX4 yX4_thrown wsX4_thrown) := goodIn_app (goodIn_of _ (by decide +kernel)) ggL_law_X4_thrown
set_option maxRecDepth 20000 in
theorem ggL_law_X3_state : GoodIn wsL_law wsX3_state := goodIn_r _ [426, 317, 358, 29, 427, 428, 188, 189, 28, 190, 41, 433, 434, 435, 436, 437, 438, 439, 440, 441, 464, 465, 466] (by decide +kernel) (by decide +kernel)
set_option maxRecDepth 20000 in
theorem gL_law_X3_state : GoodIn wsL_law (wsV RL 88 RX3 yX3_state wsX3_state) := goodIn_app (goodIn_of _ (by decide +kernel)) ggL_law_X3_state
set_option maxRecDepth 20000 in
theorem ggL_law_X4_state : GoodIn wsL_law wsX4_state := goodIn_r _ [432, 87, 341, 369, 54, 442, 443, 444, 445, 446, 447, 448, 449, 450, 451, 452, 453, 454, 455, 456, 457, 458, 459, 460, 461] (by decide +kernel) (by decide +kernel)
set_option maxRecDepth 20000 in
theorem gL_law_X4_state : GoodIn wsL_law (wsV RL 91 RX4 yX4_state wsX4_state) := goodIn_app (goodIn_of _ (by decide +kernel)) ggL_law_X4_state
