set_option maxRecDepth 20000 in
theorem ggL_does_X6_hours : GoodIn wsL_does wsX6_hours := goodIn_r _ [213, 21, 14, 114, 115, 116, 117, 118, 119, 120, 121, 122, 26, 123, 124, 125, 126, 127, 128, 77, 129, 130, 50, 131, 132, 133, 36, 72, 134, 135, 136, 137, 52, 138, 139, 140, 141, 142, 143, 144, 145, 104, 39, 146, 147, 148, 149, 150, 151, 28, 152, 12, 153, 154, 155, 80, 156, 157, 158, 159, 160, 161, 162, 163, 164, 165, 166, 167, 168, 38, 214, 215, 216, 217, 218, 219, 177, 178, 220, 221, 184, 185, 186, 187, 188, 189, 190, 191, 274, 275, 276, 277, 278, 298, 299, 279, 280, 281, 282, 300, 301, 302, 303, 283, 284, 285, 286, 287, 288, 289, 290] (by decide +kernel) (by decide +kernel)
set_option maxRecDepth 20000 in
theorem gL_does_X6_hours : GoodIn wsL_does (wsV RL 37 RX6 yX6_hours wsX6_hours) := goodIn_app (goodIn_of _ (by decide +kernel)) ggL_does_X6_hours
set_option maxRecDepth 20000 in
theorem ggL_does_X6_count : GoodIn wsL_does wsX6_count := goodIn_r _ [13, 14, 15, 16, 17, 18, 19, 20, 21, 22, 23, 24, 25, 26, 27, 28, 29, 30, 31, 32, 33, 34, 35, 36, 37, 38, 39, 40, 41, 42, 43, 44, 45, 46, 47, 48, 49, 50, 51, 52, 274, 275, 276, 277, 278, 279, 280, 281, 282, 283, 284, 285, 286, 287, 288, 289, 290, 291, 292, 293, 294, 295, 296, 297, 298, 299, 300, 301, 302, 303] (by decide +kernel) (by decide +kernel)
set_option maxRecDepth 20000 in
theorem gL_does_X6_count : GoodIn wsL_does (wsV RL 8 RX6 yX6_count wsX6_count) := goodIn_app (goodIn_of _ (by decide +kernel)) ggL_does_X6_count
set_option maxRecDepth 20000 in
theorem ggL_does_X6_burn : GoodIn wsL_does wsX6_burn := goodIn_r _ [225, 21, 14, 114, 115, 116, 117, 118, 119, 120, 121, 122, 26, 123, 124, 125, 126, 127, 128, 77, 129, 130, 50, 131, 132, 133, 36, 72, 134, 135, 136, 137, 52, 138, 139, 140, 141, 142, 143, 144, 145, 104, 39, 146, 147, 148, 149, 150, 151, 28, 152, 12, 153, 154, 155, 80, 156, 157, 158, 159, 160, 161, 162, 163, 164, 165, 166, 167, 168, 38, 226, 227, 228, 229, 73, 174, 179, 65, 66, 67, 230, 231, 232, 233, 200, 177, 178, 234, 69, 70, 71, 74, 75, 76, 78, 79, 81, 82, 24, 25, 27, 184, 185, 186, 187, 188, 189, 190, 191, 274, 275, 276, 277, 278, 298, 299, 279, 280, 281, 282, 300, 301, 302, 303, 283, 284, 285, 286, 287, 288, 289, 290] (by decide +kernel) (by decide +kernel)
set_option maxRecDepth 20000 in
theorem gL_does_X6_burn : GoodIn wsL_does (wsV RL 40 RX6 yX6_burn wsX6_burn) := goodIn_app (goodIn_of _ (by decide +kernel)) ggL_does_X6_burn
set_option maxRecDepth 20000 in
theorem ggL_does_X6_set : GoodIn wsL_does wsX6_set := goodIn_r _ [238, 21, 14, 114, 115, 116, 117, 118, 119, 120, 121, 122, 26, 123, 124, 125, 126, 127, 128, 77, 129, 130, 50, 131, 132, 133, 36, 72, 134, 135, 136, 137, 52, 138, 139, 140, 141, 142, 143, 144, 145, 104, 39, 146, 147, 148, 149, 150, 151, 28, 152, 12, 153, 154, 155, 80, 156, 157, 158, 159, 160, 161, 162, 163, 164, 165, 166, 167, 168, 38, 239, 240, 241, 242, 184, 185, 186, 187, 188, 189, 190, 191, 274, 275, 276, 277, 278, 298, 299, 279, 280, 281, 282, 300, 301, 302, 303, 283, 284, 285, 286, 287, 288, 289, 290] (by decide +kernel) (by decide +kernel)
set_option maxRecDepth 20000 in
theorem gL_does_X6_set : GoodIn wsL_does (wsV RL 43 RX6 yX6_set wsX6_set) := goodIn_app (goodIn_of _ (by decide +kernel)) ggL_does_X6_set
set_option maxRecDepth 20000 in
theorem ggL_does_X6_pass : GoodIn wsL_does wsX6_pass := goodIn_r _ [246, 21, 14, 114, 115, 116, 117, 118, 119, 120, 121, 122, 26, 123, 124, 125, 126, 127, 128, 77, 129, 130, 50, 131, 132, 133, 36, 72, 134, 135, 136, 137, 52, 138, 139, 140, 141, 142, 143, 144, 145, 104, 39, 146, 147, 148, 149, 150, 151, 28, 152, 12, 153, 154, 155, 80, 156, 157, 158, 159, 160, 161, 162, 163, 164, 165, 166, 167, 168, 38, 247, 248, 249, 250, 251, 30, 31, 32, 252, 253, 254, 255, 256, 257, 258, 259, 173, 200, 260, 261, 262, 263, 82, 24, 25, 27, 264, 265, 266, 267, 76, 268, 75, 209, 78, 79, 81, 269, 270, 271, 272, 74, 176, 73, 234, 69, 70, 71, 273, 41, 42, 43, 44, 45, 46, 184, 185, 186, 187, 188, 189, 190, 191, 274, 275, 276, 277, 278, 298, 299, 279, 280, 281, 282, 300, 301, 302, 303, 283, 284, 285, 286, 287, 288, 289, 290] (by decide +kernel) (by decide +kernel)
set_option maxRecDepth 20000 in
theorem gL_does_X6_pass : GoodIn wsL_does (wsV RL 46 RX6 yX6_pass wsX6_pass) := goodIn_app (goodIn_of _ (by decide +kernel)) ggL_does_X6_pass
theorem dL_does_0 : decode cL_does 0 = .ok (.iload_n 1, 1) := by decide +kernel
theorem dL_does_1 : decode cL_does 1 = .ok (.iconst 4, 1) := by decide +kernel
theorem dL_does_2 : decode cL_does 2 = .ok (.ishr, 1) := by decide +kernel
theorem dL_does_3 : decode cL_does 3 = .ok (.bipush 6, 2) := by decide +kernel
theorem dL_does_5 : decode cL_does 5 = .ok (.invokestatic 14, 3) := by decide +kernel
theorem dL_does_8 : decode cL_does 8 = .ok (.istore_n 2, 1) := by decide +kernel
theorem dL_does_9 : decode cL_does 9 = .ok (.iload_n 1, 1) := by decide +kernel
theorem dL_does_10 : decode cL_does 10 = .ok (.bipush 15, 2) := by decide +kernel
theorem dL_does_12 : decode cL_does 12 = .ok (.iand, 1) := by decide +kernel
theorem dL_does_13 : decode cL_does 13 = .ok (.tableswitch 294 0 8 #[51, 51, 51, 51, 88, 119, 134, 210, 238], 51) := by decide +kernel
theorem dL_does_64 : decode cL_does 64 = .ok (.aload_n 0, 1) := by decide +kernel
theorem dL_does_65 : decode cL_does 65 = .ok (.iload_n 2, 1) := by decide +kernel
theorem dL_does_66 : decode cL_does 66 = .ok (.iload_n 1, 1) := by decide +kernel
theorem dL_does_67 : decode cL_does 67 = .ok (.bipush 7, 2) := by decide +kernel
theorem dL_does_69 : decode cL_does 69 = .ok (.ishr, 1) := by decide +kernel
theorem dL_does_70 : decode cL_does 70 = .ok (.bipush 70, 2) := by decide +kernel
theorem dL_does_72 : decode cL_does 72 = .ok (.invokestatic 14, 3) := by decide +kernel
theorem dL_does_75 : decode cL_does 75 = .ok (.iload_n 1, 1) := by decide +kernel
theorem dL_does_76 : decode cL_does 76 = .ok (.bipush 14, 2) := by decide +kernel
theorem dL_does_78 : decode cL_does 78 = .ok (.ishr, 1) := by decide +kernel
theorem dL_does_79 : decode cL_does 79 = .ok (.iconst 1, 1) := by decide +kernel
theorem dL_does_80 : decode cL_does 80 = .ok (.iand, 1) := by decide +kernel
theorem dL_does_81 : decode cL_does 81 = .ok (.ifCond .ne 8, 3) := by decide +kernel
theorem dL_does_84 : decode cL_does 84 = .ok (.bipush (-6), 2) := by decide +kernel
theorem dL_does_86 : decode cL_does 86 = .ok (.goto 11, 3) := by decide +kernel
theorem dL_does_89 : decode cL_does 89 = .ok (.aload_n 0, 1) := by decide +kernel
theorem dL_does_90 : decode cL_does 90 = .ok (.iload_n 1, 1) := by decide +kernel
theorem dL_does_91 : decode cL_does 91 = .ok (.bipush 15, 2) := by decide +kernel
theorem dL_does_93 : decode cL_does 93 = .ok (.ishr, 1) := by decide +kernel
theorem dL_does_94 : decode cL_does 94 = .ok (.invokestatic 23, 3) := by decide +kernel
theorem dL_does_97 : decode cL_does 97 = .ok (.invokevirtual 27, 3) := by decide +kernel
theorem dL_does_100 : decode cL_does 100 = .ok (.ireturn, 1) := by decide +kernel
theorem dL_does_101 : decode cL_does 101 = .ok (.iload_n 1, 1) := by decide +kernel
theorem dL_does_102 : decode cL_does 102 = .ok (.bipush 7, 2) := by decide +kernel
theorem dL_does_104 : decode cL_does 104 = .ok (.ishr, 1) := by decide +kernel
theorem dL_does_105 : decode cL_does 105 = .ok (.iconst 3, 1) := by decide +kernel
theorem dL_does_106 : decode cL_does 106 = .ok (.iand, 1) := by decide +kernel
theorem dL_does_107 : decode cL_does 107 = .ok (.ifCond .ne 11, 3) := by decide +kernel
theorem dL_does_110 : decode cL_does 110 = .ok (.aload_n 0, 1) := by decide +kernel
theorem dL_does_111 : decode cL_does 111 = .ok (.iload_n 2, 1) := by decide +kernel
theorem dL_does_112 : decode cL_does 112 = .ok (.invokevirtual 31, 3) := by decide +kernel
theorem dL_does_115 : decode cL_does 115 = .ok (.goto 16, 3) := by decide +kernel
theorem dL_does_118 : decode cL_does 118 = .ok (.aload_n 0, 1) := by decide +kernel
theorem dL_does_119 : decode cL_does 119 = .ok (.iload_n 2, 1) := by decide +kernel
theorem dL_does_120 : decode cL_does 120 = .ok (.iload_n 1, 1) := by decide +kernel
theorem dL_does_121 : decode cL_does 121 = .ok (.bipush 9, 2) := by decide +kernel
theorem dL_does_123 : decode cL_does 123 = .ok (.ishr, 1) := by decide +kernel
theorem dL_does_124 : decode cL_does 124 = .ok (.iconst 4, 1) := by decide +kernel
theorem dL_does_125 : decode cL_does 125 = .ok (.invokestatic 14, 3) := by decide +kernel
theorem dL_does_128 : decode cL_does 128 = .ok (.invokevirtual 34, 3) := by decide +kernel
theorem dL_does_131 : decode cL_does 131 = .ok (.ireturn, 1) := by decide +kernel
theorem dL_does_132 : decode cL_does 132 = .ok (.aload_n 0, 1) := by decide +kernel
theorem dL_does_133 : decode cL_does 133 = .ok (.iload_n 2, 1) := by decide +kernel
theorem dL_does_134 : decode cL_does 134 = .ok (.iload_n 1, 1) := by decide +kernel
theorem dL_does_135 : decode cL_does 135 = .ok (.bipush 7, 2) := by decide +kernel
theorem dL_does_137 : decode cL_does 137 = .ok (.ishr, 1) := by decide +kernel
theorem dL_does_138 : decode cL_does 138 = .ok (.bipush 31, 2) := by decide +kernel
theorem dL_does_140 : decode cL_does 140 = .ok (.invokestatic 14, 3) := by decide +kernel
theorem dL_does_143 : decode cL_does 143 = .ok (.invokevirtual 34, 3) := by decide +kernel
theorem dL_does_146 : decode cL_does 146 = .ok (.ireturn, 1) := by decide +kernel
theorem dL_does_147 : decode cL_does 147 = .ok (.aload_n 0, 1) := by decide +kernel
theorem dL_does_148 : decode cL_does 148 = .ok (.iload_n 2, 1) := by decide +kernel
theorem dL_does_149 : decode cL_does 149 = .ok (.iload_n 1, 1) := by decide +kernel
theorem dL_does_150 : decode cL_does 150 = .ok (.bipush 7, 2) := by decide +kernel
theorem dL_does_152 : decode cL_does 152 = .ok (.ishr, 1) := by decide +kernel
theorem dL_does_153 : decode cL_does 153 = .ok (.iconst 3, 1) := by decide +kernel
theorem dL_does_154 : decode cL_does 154 = .ok (.iand, 1) := by decide +kernel
theorem dL_does_155 : decode cL_does 155 = .ok (.ifCond .ne 8, 3) := by decide +kernel
theorem dL_does_158 : decode cL_does 158 = .ok (.bipush (-6), 2) := by decide +kernel
theorem dL_does_160 : decode cL_does 160 = .ok (.goto 12, 3) := by decide +kernel
theorem dL_does_163 : decode cL_does 163 = .ok (.iload_n 1, 1) := by decide +kernel
theorem dL_does_164 : decode cL_does 164 = .ok (.bipush 9, 2) := by decide +kernel
theorem dL_does_166 : decode cL_does 166 = .ok (.ishr, 1) := by decide +kernel
theorem dL_does_167 : decode cL_does 167 = .ok (.bipush 24, 2) := by decide +kernel
theorem dL_does_169 : decode cL_does 169 = .ok (.invokestatic 14, 3) := by decide +kernel
theorem dL_does_172 : decode cL_does 172 = .ok (.iload_n 1, 1) := by decide +kernel
theorem dL_does_173 : decode cL_does 173 = .ok (.bipush 9, 2) := by decide +kernel
theorem dL_does_175 : decode cL_does 175 = .ok (.ishr, 1) := by decide +kernel
theorem dL_does_176 : decode cL_does 176 = .ok (.bipush 24, 2) := by decide +kernel
theorem dL_does_178 : decode cL_does 178 = .ok (.invokestatic 14, 3) := by decide +kernel
theorem dL_does_181 : decode cL_does 181 = .ok (.iload_n 1, 1) := by decide +kernel
theorem dL_does_182 : decode cL_does 182 = .ok (.bipush 14, 2) := by decide +kernel
theorem dL_does_184 : decode cL_does 184 = .ok (.ishr, 1) := by decide +kernel
theorem dL_does_185 : decode cL_does 185 = .ok (.bipush 24, 2) := by decide +kernel
theorem dL_does_187 : decode cL_does 187 = .ok (.invokestatic 14, 3) := by decide +kernel
theorem dL_does_190 : decode cL_does 190 = .ok (.if_icmp .ne 20, 3) := by decide +kernel
theorem dL_does_193 : decode cL_does 193 = .ok (.iload_n 1, 1) := by decide +kernel
theorem dL_does_194 : decode cL_does 194 = .ok (.bipush 9, 2) := by decide +kernel
theorem dL_does_196 : decode cL_does 196 = .ok (.ishr, 1) := by decide +kernel
theorem dL_does_197 : decode cL_does 197 = .ok (.bipush 24, 2) := by decide +kernel
theorem dL_does_199 : decode cL_does 199 = .ok (.invokestatic 14, 3) := by decide +kernel
theorem dL_does_202 : decode cL_does 202 = .ok (.iconst 1, 1) := by decide +kernel
theorem dL_does_203 : decode cL_does 203 = .ok (.iadd, 1) := by decide +kernel
theorem dL_does_204 : decode cL_does 204 = .ok (.bipush 24, 2) := by decide +kernel
theorem dL_does_206 : decode cL_does 206 = .ok (.irem, 1) := by decide +kernel
theorem dL_does_207 : decode cL_does 207 = .ok (.goto 12, 3) := by decide +kernel
theorem dL_does_210 : decode cL_does 210 = .ok (.iload_n 1, 1) := by decide +kernel
theorem dL_does_211 : decode cL_does 211 = .ok (.bipush 14, 2) := by decide +kernel
theorem dL_does_213 : decode cL_does 213 = .ok (.ishr, 1) := by decide +kernel
theorem dL_does_214 : decode cL_does 214 = .ok (.bipush 24, 2) := by decide +kernel
theorem dL_does_216 : decode cL_does 216 = .ok (.invokestatic 14, 3) := by decide +kernel
theorem dL_does_219 : decode cL_does 219 = .ok (.invokevirtual 37, 3) := by decide +kernel
theorem dL_does_222 : decode cL_does 222 = .ok (.ireturn, 1) := by decide +kernel
theorem dL_does_223 : decode cL_does 223 = .ok (.aload_n 0, 1) := by decide +kernel
theorem dL_does_224 : decode cL_does 224 = .ok (.iconst 2, 1) := by decide +kernel
theorem dL_does_225 : decode cL_does 225 = .ok (.invokevirtual 8, 3) := by decide +kernel
theorem dL_does_228 : decode cL_does 228 = .ok (.ifCond .ne 7, 3) := by decide +kernel
theorem dL_does_231 : decode cL_does 231 = .ok (.iconst 0, 1) := by decide +kernel
theorem dL_does_232 : decode cL_does 232 = .ok (.goto 18, 3) := by decide +kernel
theorem dL_does_235 : decode cL_does 235 = .ok (.aload_n 0, 1) := by decide +kernel
theorem dL_does_236 : decode cL_does 236 = .ok (.iload_n 1, 1) := by decide +kernel
theorem dL_does_237 : decode cL_does 237 = .ok (.iconst 4, 1) := by decide +kernel
theorem dL_does_238 : decode cL_does 238 = .ok (.ishr, 1) := by decide +kernel
theorem dL_does_239 : decode cL_does 239 = .ok (.aload_n 0, 1) := by decide +kernel
theorem dL_does_240 : decode cL_does 240 = .ok (.iconst 2, 1) := by decide +kernel
theorem dL_does_241 : decode cL_does 241 = .ok (.invokevirtual 8, 3) := by decide +kernel
theorem dL_does_244 : decode cL_does 244 = .ok (.invokestatic 14, 3) := by decide +kernel
theorem dL_does_247 : decode cL_does 247 = .ok (.invokevirtual 40, 3) := by decide +kernel
theorem dL_does_250 : decode cL_does 250 = .ok (.ireturn, 1) := by decide +kernel
theorem dL_does_251 : decode cL_does 251 = .ok (.iload_n 1, 1) := by decide +kernel
theorem dL_does_252 : decode cL_does 252 = .ok (.iconst 4, 1) := by decide +kernel
theorem dL_does_253 : decode cL_does 253 = .ok (.ishr, 1) := by decide +kernel
theorem dL_does_254 : decode cL_does 254 = .ok (.iconst 3, 1) := by decide +kernel
theorem dL_does_255 : decode cL_does 255 = .ok (.invokestatic 14, 3) := by decide +kernel
theorem dL_does_258 : decode cL_does 258 = .ok (.istore_n 3, 1) := by decide +kernel
theorem dL_does_259 : decode cL_does 259 = .ok (.aload_n 0, 1) := by decide +kernel
theorem dL_does_260 : decode cL_does 260 = .ok (.iload_n 3, 1) := by decide +kernel
theorem dL_does_261 : decode cL_does 261 = .ok (.iload_n 3, 1) := by decide +kernel
theorem dL_does_262 : decode cL_does 262 = .ok (.ifCond .ne 15, 3) := by decide +kernel
theorem dL_does_265 : decode cL_does 265 = .ok (.iload_n 1, 1) := by decide +kernel
theorem dL_does_266 : decode cL_does 266 = .ok (.bipush 6, 2) := by decide +kernel
theorem dL_does_268 : decode cL_does 268 = .ok (.ishr, 1) := by decide +kernel
theorem dL_does_269 : decode cL_does 269 = .ok (.bipush 24, 2) := by decide +kernel
theorem dL_does_271 : decode cL_does 271 = .ok (.invokestatic 14, 3) := by decide +kernel
theorem dL_does_274 : decode cL_does 274 = .ok (.goto 29, 3) := by decide +kernel
theorem dL_does_277 : decode cL_does 277 = .ok (.iload_n 3, 1) := by decide +kernel
theorem dL_does_278 : decode cL_does 278 = .ok (.iconst 1, 1) := by decide +kernel
theorem dL_does_279 : decode cL_does 279 = .ok (.if_icmp .ne 15, 3) := by decide +kernel
theorem dL_does_282 : decode cL_does 282 = .ok (.iload_n 1, 1) := by decide +kernel
theorem dL_does_283 : decode cL_does 283 = .ok (.bipush 6, 2) := by decide +kernel
theorem dL_does_285 : decode cL_does 285 = .ok (.ishr, 1) := by decide +kernel
theorem dL_does_286 : decode cL_does 286 = .ok (.bipush 100, 2) := by decide +kernel
theorem dL_does_288 : decode cL_does 288 = .ok (.invokestatic 14, 3) := by decide +kernel
theorem dL_does_291 : decode cL_does 291 = .ok (.goto 12, 3) := by decide +kernel
theorem dL_does_294 : decode cL_does 294 = .ok (.iload_n 1, 1) := by decide +kernel
theorem dL_does_295 : decode cL_does 295 = .ok (.bipush 6, 2) := by decide +kernel
theorem dL_does_297 : decode cL_does 297 = .ok (.ishr, 1) := by decide +kernel
theorem dL_does_298 : decode cL_does 298 = .ok (.bipush 21, 2) := by decide +kernel
theorem dL_does_300 : decode cL_does 300 = .ok (.invokestatic 14, 3) := by decide +kernel
theorem dL_does_303 : decode cL_does 303 = .ok (.invokevirtual 43, 3) := by decide +kernel
theorem dL_does_306 : decode cL_does 306 = .ok (.ireturn, 1) := by decide +kernel
theorem dL_does_307 : decode cL_does 307 = .ok (.aload_n 0, 1) := by decide +kernel
theorem dL_does_308 : decode cL_does 308 = .ok (.iconst 1, 1) := by decide +kernel
theorem dL_does_309 : decode cL_does 309 = .ok (.iload_n 1, 1) := by decide +kernel
theorem dL_does_310 : decode cL_does 310 = .ok (.iconst 4, 1) := by decide +kernel
theorem dL_does_311 : decode cL_does 311 = .ok (.ishr, 1) := by decide +kernel
theorem dL_does_312 : decode cL_does 312 = .ok (.bipush 40, 2) := by decide +kernel
theorem dL_does_314 : decode cL_does 314 = .ok (.invokestatic 14, 3) := by decide +kernel
theorem dL_does_317 : decode cL_does 317 = .ok (.iadd, 1) := by decide +kernel
theorem dL_does_318 : decode cL_does 318 = .ok (.invokevirtual 46, 3) := by decide +kernel
theorem dL_does_321 : decode cL_does 321 = .ok (.ireturn, 1) := by decide +kernel
set_option maxRecDepth 20000 in
theorem ggL_areLettersSo_X6_count : GoodIn wsL_areLettersSo wsX6_count := goodIn_r _ [6, 7, 8, 9, 10, 11, 12, 13, 14, 15, 16, 17, 18, 19, 20, 21, 22, 23, 24, 25, 26, 27, 28, 29, 30, 31, 32, 33, 34, 35, 36, 37, 38, 39, 40, 41, 42, 43, 44, 45, 146, 147, 148, 149, 150, 151, 152, 153, 154, 155, 156, 157, 158, 159, 160, 161, 162, 163, 164, 165, 166, 167, 168, 169, 170, 171, 172, 173, 174, 175] (by decide +kernel) (by decide +kernel)
set_option maxRecDepth 20000 in
theorem gL_areLettersSo_X6_count : GoodIn wsL_areLettersSo (wsV RL 8 RX6 yX6_count wsX6_count) := goodIn_app (goodIn_of _ (by decide +kernel)) ggL_areLettersSo_X6_count
set_option maxRecDepth 20000 in
theorem ggL_areLettersSo_X6_ofLetter : GoodIn wsL_areLettersSo wsX6_ofLetter := goodIn_r _ [49, 7, 8, 50, 51, 52, 53, 54, 55, 56, 57, 58, 59, 29, 60, 31, 61, 62, 63, 19, 64, 65, 66, 67, 68, 69, 70, 71, 72, 73, 74, 75, 17, 18, 20, 21, 76, 77, 78, 79, 80, 81, 82, 83, 84, 85, 86, 87, 88, 89, 90, 91, 92, 93, 94, 95, 96, 97, 98, 99, 100, 101, 102, 146, 147, 148, 149, 150, 151, 152, 153, 154, 155, 156, 157, 158, 159, 160, 161, 162, 176] (by decide +kernel) (by decide +kernel)
set_option maxRecDepth 20000 in
theorem gL_areLettersSo_X6_ofLetter : GoodIn wsL_areLettersSo (wsV RL 20 RX6 yX6_ofLetter wsX6_ofLetter) := goodIn_app (goodIn_of _ (by decide +kernel)) ggL_areLettersSo_X6_ofLetter
set_option maxRecDepth 20000 in
theorem ggL_areLettersSo_X6_ofDrawer : GoodIn wsL_areLettersSo wsX6_ofDrawer := goodIn_r _ [106, 7, 10, 8, 107, 108, 109, 110, 111, 112, 5, 113, 114, 115, 116, 29, 117, 31, 118, 32, 119, 120, 121, 19, 122, 65, 123, 124, 125, 126, 127, 128, 62, 63, 64, 66, 67, 68, 69, 70, 71, 72, 73, 74, 75, 17, 18, 20, 21, 146, 147, 148, 149, 150, 151, 152, 153, 154, 172, 173, 174, 175, 155, 156, 157, 158, 159, 160, 161, 162] (by decide +kernel) (by decide +kernel)
set_option maxRecDepth 20000 in
theorem gL_areLettersSo_X6_ofDrawer : GoodIn wsL_areLettersSo (wsV RL 49 RX6 yX6_ofDrawer wsX6_ofDrawer) := goodIn_app (goodIn_of _ (by decide +kernel)) ggL_areLettersSo_X6_ofDrawer
set_option maxRecDepth 20000 in
theorem ggL_areLettersSo_X6_letters : GoodIn wsL_areLettersSo wsX6_letters := goodIn_r _ [132, 7, 8, 133, 26, 27, 28, 29, 30, 31, 32, 134, 135, 136, 19, 137, 65, 123, 138, 139, 124, 125, 126, 127, 118, 75, 17, 18, 20, 21, 140, 141, 142, 143, 69, 70, 144, 68, 145, 71, 72, 73, 74, 146, 147, 148, 149, 150, 151, 152, 153, 154, 155, 156, 157, 158, 159, 160, 161, 162, 172, 173, 174, 175] (by decide +kernel) (by decide +kernel)
set_option maxRecDepth 20000 in
theorem gL_areLettersSo_X6_letters : GoodIn wsL_areLettersSo (wsV RL 52 RX6 yX6_letters wsX6_letters) := goodIn_app (goodIn_of _ (by decide +kernel)) ggL_areLettersSo_X6_letters
theorem dL_areLettersSo_0 : decode cL_areLettersSo 0 = .ok (.aload_n 0, 1) := by decide +kernel
theorem dL_areLettersSo_1 : decode cL_areLettersSo 1 = .ok (.aload_n 0, 1) := by decide +kernel
theorem dL_areLettersSo_2 : decode cL_areLettersSo 2 = .ok (.iconst 2, 1) := by decide +kernel
theorem dL_areLettersSo_3 : decode cL_areLettersSo 3 = .ok (.invokevirtual 8, 3) := by decide +kernel
theorem dL_areLettersSo_6 : decode cL_areLettersSo 6 = .ok (.iconst 0, 1) := by decide +kernel
theorem dL_areLettersSo_7 : decode cL_areLettersSo 7 = .ok (.invokevirtual 20, 3) := by decide +kernel
theorem dL_areLettersSo_10 : decode cL_areLettersSo 10 = .ok (.iconst (-1), 1) := by decide +kernel
theorem dL_areLettersSo_11 : decode cL_areLettersSo 11 = .ok (.if_icmp .ne 7, 3) := by decide +kernel
theorem dL_areLettersSo_14 : decode cL_areLettersSo 14 = .ok (.iconst 1, 1) := by decide +kernel
theorem dL_areLettersSo_15 : decode cL_areLettersSo 15 = .ok (.goto 4, 3) := by decide +kernel
theorem dL_areLettersSo_18 : decode cL_areLettersSo 18 = .ok (.iconst 0, 1) := by decide +kernel
theorem dL_areLettersSo_19 : decode cL_areLettersSo 19 = .ok (.istore_n 1, 1) := by decide +kernel
theorem dL_areLettersSo_20 : decode cL_areLettersSo 20 = .ok (.bipush 30, 2) := by decide +kernel
theorem dL_areLettersSo_22 : decode cL_areLettersSo 22 = .ok (.newarray .int, 2) := by decide +kernel
theorem dL_areLettersSo_24 : decode cL_areLettersSo 24 = .ok (.astore_n 2, 1) := by decide +kernel
theorem dL_areLettersSo_25 : decode cL_areLettersSo 25 = .ok (.aload_n 0, 1) := by decide +kernel
theorem dL_areLettersSo_26 : decode cL_areLettersSo 26 = .ok (.iconst 2, 1) := by decide +kernel
theorem dL_areLettersSo_27 : decode cL_areLettersSo 27 = .ok (.invokevirtual 8, 3) := by decide +kernel
theorem dL_areLettersSo_30 : decode cL_areLettersSo 30 = .ok (.iconst 1, 1) := by decide +kernel
theorem dL_areLettersSo_31 : decode cL_areLettersSo 31 = .ok (.isub, 1) := by decide +kernel
theorem dL_areLettersSo_32 : decode cL_areLettersSo 32 = .ok (.istore_n 3, 1) := by decide +kernel
theorem dL_areLettersSo_33 : decode cL_areLettersSo 33 = .ok (.iload_n 3, 1) := by decide +kernel
theorem dL_areLettersSo_34 : decode cL_areLettersSo 34 = .ok (.ifCond .lt 396, 3) := by decide +kernel
theorem dL_areLettersSo_37 : decode cL_areLettersSo 37 = .ok (.aload_n 0, 1) := by decide +kernel
theorem dL_areLettersSo_38 : decode cL_areLettersSo 38 = .ok (.iload_n 3, 1) := by decide +kernel
theorem dL_areLettersSo_39 : decode cL_areLettersSo 39 = .ok (.iconst 4, 1) := by decide +kernel
theorem dL_areLettersSo_40 : decode cL_areLettersSo 40 = .ok (.invokevirtual 20, 3) := by decide +kernel
theorem dL_areLettersSo_43 : decode cL_areLettersSo 43 = .ok (.istore 4, 2) := by decide +kernel
theorem dL_areLettersSo_45 : decode cL_areLettersSo 45 = .ok (.aload_n 0, 1) := by decide +kernel
theorem dL_areLettersSo_46 : decode cL_areLettersSo 46 = .ok (.iload_n 3, 1) := by decide +kernel
theorem dL_areLettersSo_47 : decode cL_areLettersSo 47 = .ok (.bipush 6, 2) := by decide +kernel
theorem dL_areLettersSo_49 : decode cL_areLettersSo 49 = .ok (.invokevirtual 20, 3) := by decide +kernel
theorem dL_areLettersSo_52 : decode cL_areLettersSo 52 = .ok (.istore 5, 2) := by decide +kernel
theorem dL_areLettersSo_54 : decode cL_areLettersSo 54 = .ok (.aload_n 0, 1) := by decide +kernel
theorem dL_areLettersSo_55 : decode cL_areLettersSo 55 = .ok (.iload_n 3, 1) := by decide +kernel
theorem dL_areLettersSo_56 : decode cL_areLettersSo 56 = .ok (.iconst 0, 1) := by decide +kernel
theorem dL_areLettersSo_57 : decode cL_areLettersSo 57 = .ok (.invokevirtual 20, 3) := by decide +kernel
theorem dL_areLettersSo_60 : decode cL_areLettersSo 60 = .ok (.istore 6, 2) := by decide +kernel
theorem dL_areLettersSo_62 : decode cL_areLettersSo 62 = .ok (.aload_n 0, 1) := by decide +kernel
theorem dL_areLettersSo_63 : decode cL_areLettersSo 63 = .ok (.iload_n 3, 1) := by decide +kernel
theorem dL_areLettersSo_64 : decode cL_areLettersSo 64 = .ok (.iconst 1, 1) := by decide +kernel
theorem dL_areLettersSo_65 : decode cL_areLettersSo 65 = .ok (.invokevirtual 20, 3) := by decide +kernel
theorem dL_areLettersSo_68 : decode cL_areLettersSo 68 = .ok (.aload_n 0, 1) := by decide +kernel
theorem dL_areLettersSo_69 : decode cL_areLettersSo 69 = .ok (.bipush 9, 2) := by decide +kernel
theorem dL_areLettersSo_71 : decode cL_areLettersSo 71 = .ok (.invokevirtual 8, 3) := by decide +kernel
theorem dL_areLettersSo_74 : decode cL_areLettersSo 74 = .ok (.aload_n 0, 1) := by decide +kernel
theorem dL_areLettersSo_75 : decode cL_areLettersSo 75 = .ok (.iconst 0, 1) := by decide +kernel
theorem dL_areLettersSo_76 : decode cL_areLettersSo 76 = .ok (.invokevirtual 8, 3) := by decide +kernel
theorem dL_areLettersSo_79 : decode cL_areLettersSo 79 = .ok (.aload_n 0, 1) := by decide +kernel
theorem dL_areLettersSo_80 : decode cL_areLettersSo 80 = .ok (.iload_n 3, 1) := by decide +kernel
theorem dL_areLettersSo_81 : decode cL_areLettersSo 81 = .ok (.iconst 3, 1) := by decide +kernel
theorem dL_areLettersSo_82 : decode cL_areLettersSo 82 = .ok (.invokevirtual 20, 3) := by decide +kernel
theorem dL_areLettersSo_85 : decode cL_areLettersSo 85 = .ok (.isub, 1) := by decide +kernel
theorem dL_areLettersSo_86 : decode cL_areLettersSo 86 = .ok (.imul, 1) := by decide +kernel
theorem dL_areLettersSo_87 : decode cL_areLettersSo 87 = .ok (.isub, 1) := by decide +kernel
theorem dL_areLettersSo_88 : decode cL_areLettersSo 88 = .ok (.istore 7, 2) := by decide +kernel
theorem dL_areLettersSo_90 : decode cL_areLettersSo 90 = .ok (.aload_n 0, 1) := by decide +kernel
theorem dL_areLettersSo_91 : decode cL_areLettersSo 91 = .ok (.iload_n 3, 1) := by decide +kernel
theorem dL_areLettersSo_92 : decode cL_areLettersSo 92 = .ok (.bipush 7, 2) := by decide +kernel
theorem dL_areLettersSo_94 : decode cL_areLettersSo 94 = .ok (.invokevirtual 20, 3) := by decide +kernel
theorem dL_areLettersSo_97 : decode cL_areLettersSo 97 = .ok (.istore 8, 2) := by decide +kernel
theorem dL_areLettersSo_99 : decode cL_areLettersSo 99 = .ok (.aload_n 0, 1) := by decide +kernel
theorem dL_areLettersSo_100 : decode cL_areLettersSo 100 = .ok (.iload 6, 2) := by decide +kernel
theorem dL_areLettersSo_102 : decode cL_areLettersSo 102 = .ok (.iconst 1, 1) := by decide +kernel
theorem dL_areLettersSo_103 : decode cL_areLettersSo 103 = .ok (.invokevirtual 49, 3) := by decide +kernel
theorem dL_areLettersSo_106 : decode cL_areLettersSo 106 = .ok (.ifCond .ne 7, 3) := by decide +kernel
theorem dL_areLettersSo_109 : decode cL_areLettersSo 109 = .ok (.iconst 1, 1) := by decide +kernel
theorem dL_areLettersSo_110 : decode cL_areLettersSo 110 = .ok (.goto 4, 3) := by decide +kernel
theorem dL_areLettersSo_113 : decode cL_areLettersSo 113 = .ok (.iconst 0, 1) := by decide +kernel
theorem dL_areLettersSo_114 : decode cL_areLettersSo 114 = .ok (.istore 9, 2) := by decide +kernel
theorem dL_areLettersSo_116 : decode cL_areLettersSo 116 = .ok (.iload 4, 2) := by decide +kernel
theorem dL_areLettersSo_118 : decode cL_areLettersSo 118 = .ok (.ifCond .ne 49, 3) := by decide +kernel
theorem dL_areLettersSo_121 : decode cL_areLettersSo 121 = .ok (.iload 9, 2) := by decide +kernel
theorem dL_areLettersSo_123 : decode cL_areLettersSo 123 = .ok (.ifCond .eq 44, 3) := by decide +kernel
theorem dL_areLettersSo_126 : decode cL_areLettersSo 126 = .ok (.aload_n 0, 1) := by decide +kernel
theorem dL_areLettersSo_127 : decode cL_areLettersSo 127 = .ok (.iconst 0, 1) := by decide +kernel
theorem dL_areLettersSo_128 : decode cL_areLettersSo 128 = .ok (.invokevirtual 8, 3) := by decide +kernel
theorem dL_areLettersSo_131 : decode cL_areLettersSo 131 = .ok (.aload_n 0, 1) := by decide +kernel
theorem dL_areLettersSo_132 : decode cL_areLettersSo 132 = .ok (.iload_n 3, 1) := by decide +kernel
theorem dL_areLettersSo_133 : decode cL_areLettersSo 133 = .ok (.iconst 3, 1) := by decide +kernel
theorem dL_areLettersSo_134 : decode cL_areLettersSo 134 = .ok (.invokevirtual 20, 3) := by decide +kernel
theorem dL_areLettersSo_137 : decode cL_areLettersSo 137 = .ok (.isub, 1) := by decide +kernel
theorem dL_areLettersSo_138 : decode cL_areLettersSo 138 = .ok (.aload_n 0, 1) := by decide +kernel
theorem dL_areLettersSo_139 : decode cL_areLettersSo 139 = .ok (.iload 6, 2) := by decide +kernel
theorem dL_areLettersSo_141 : decode cL_areLettersSo 141 = .ok (.iconst 2, 1) := by decide +kernel
theorem dL_areLettersSo_142 : decode cL_areLettersSo 142 = .ok (.invokevirtual 49, 3) := by decide +kernel
theorem dL_areLettersSo_145 : decode cL_areLettersSo 145 = .ok (.if_icmp .lt 22, 3) := by decide +kernel
theorem dL_areLettersSo_148 : decode cL_areLettersSo 148 = .ok (.aload_n 0, 1) := by decide +kernel
theorem dL_areLettersSo_149 : decode cL_areLettersSo 149 = .ok (.iload_n 3, 1) := by decide +kernel
theorem dL_areLettersSo_150 : decode cL_areLettersSo 150 = .ok (.iconst 2, 1) := by decide +kernel
theorem dL_areLettersSo_151 : decode cL_areLettersSo 151 = .ok (.invokevirtual 20, 3) := by decide +kernel
theorem dL_areLettersSo_154 : decode cL_areLettersSo 154 = .ok (.aload_n 0, 1) := by decide +kernel
theorem dL_areLettersSo_155 : decode cL_areLettersSo 155 = .ok (.bipush 8, 2) := by decide +kernel
theorem dL_areLettersSo_157 : decode cL_areLettersSo 157 = .ok (.invokevirtual 8, 3) := by decide +kernel
theorem dL_areLettersSo_160 : decode cL_areLettersSo 160 = .ok (.if_icmp .gt 7, 3) := by decide +kernel
theorem dL_areLettersSo_163 : decode cL_areLettersSo 163 = .ok (.iconst 1, 1) := by decide +kernel
theorem dL_areLettersSo_164 : decode cL_areLettersSo 164 = .ok (.goto 4, 3) := by decide +kernel
theorem dL_areLettersSo_167 : decode cL_areLettersSo 167 = .ok (.iconst 0, 1) := by decide +kernel
theorem dL_areLettersSo_168 : decode cL_areLettersSo 168 = .ok (.istore 10, 2) := by decide +kernel
theorem dL_areLettersSo_170 : decode cL_areLettersSo 170 = .ok (.iload_n 1, 1) := by decide +kernel
theorem dL_areLettersSo_171 : decode cL_areLettersSo 171 = .ok (.ifCond .eq 103, 3) := by decide +kernel
theorem dL_areLettersSo_174 : decode cL_areLettersSo 174 = .ok (.iload 4, 2) := by decide +kernel
theorem dL_areLettersSo_176 : decode cL_areLettersSo 176 = .ok (.iconst 1, 1) := by decide +kernel
theorem dL_areLettersSo_177 : decode cL_areLettersSo 177 = .ok (.if_icmp .eq 23, 3) := by decide +kernel
theorem dL_areLettersSo_180 : decode cL_areLettersSo 180 = .ok (.aload_n 0, 1) := by decide +kernel
theorem dL_areLettersSo_181 : decode cL_areLettersSo 181 = .ok (.iload_n 3, 1) := by decide +kernel
theorem dL_areLettersSo_182 : decode cL_areLettersSo 182 = .ok (.iconst 2, 1) := by decide +kernel
theorem dL_areLettersSo_183 : decode cL_areLettersSo 183 = .ok (.invokevirtual 20, 3) := by decide +kernel
theorem dL_areLettersSo_186 : decode cL_areLettersSo 186 = .ok (.iload 7, 2) := by decide +kernel
theorem dL_areLettersSo_188 : decode cL_areLettersSo 188 = .ok (.ifCond .ge 7, 3) := by decide +kernel
theorem dL_areLettersSo_191 : decode cL_areLettersSo 191 = .ok (.iconst 0, 1) := by decide +kernel
theorem dL_areLettersSo_192 : decode cL_areLettersSo 192 = .ok (.goto 5, 3) := by decide +kernel
theorem dL_areLettersSo_195 : decode cL_areLettersSo 195 = .ok (.iload 7, 2) := by decide +kernel
theorem dL_areLettersSo_197 : decode cL_areLettersSo 197 = .ok (.if_icmp .ne 77, 3) := by decide +kernel
theorem dL_areLettersSo_200 : decode cL_areLettersSo 200 = .ok (.iload 4, 2) := by decide +kernel
theorem dL_areLettersSo_202 : decode cL_areLettersSo 202 = .ok (.iconst 1, 1) := by decide +kernel
theorem dL_areLettersSo_203 : decode cL_areLettersSo 203 = .ok (.if_icmp .ne 7, 3) := by decide +kernel
theorem dL_areLettersSo_206 : decode cL_areLettersSo 206 = .ok (.iconst 1, 1) := by decide +kernel
theorem dL_areLettersSo_207 : decode cL_areLettersSo 207 = .ok (.goto 4, 3) := by decide +kernel
theorem dL_areLettersSo_210 : decode cL_areLettersSo 210 = .ok (.iconst 0, 1) := by decide +kernel
theorem dL_areLettersSo_211 : decode cL_areLettersSo 211 = .ok (.aload_n 0, 1) := by decide +kernel
theorem dL_areLettersSo_212 : decode cL_areLettersSo 212 = .ok (.iload_n 3, 1) := by decide +kernel
theorem dL_areLettersSo_213 : decode cL_areLettersSo 213 = .ok (.iconst 5, 1) := by decide +kernel
theorem dL_areLettersSo_214 : decode cL_areLettersSo 214 = .ok (.invokevirtual 20, 3) := by decide +kernel
theorem dL_areLettersSo_217 : decode cL_areLettersSo 217 = .ok (.ifCond .lt 7, 3) := by decide +kernel
theorem dL_areLettersSo_220 : decode cL_areLettersSo 220 = .ok (.iconst 1, 1) := by decide +kernel
theorem dL_areLettersSo_221 : decode cL_areLettersSo 221 = .ok (.goto 4, 3) := by decide +kernel
theorem dL_areLettersSo_224 : decode cL_areLettersSo 224 = .ok (.iconst 0, 1) := by decide +kernel
theorem dL_areLettersSo_225 : decode cL_areLettersSo 225 = .ok (.if_icmp .ne 49, 3) := by decide +kernel
theorem dL_areLettersSo_228 : decode cL_areLettersSo 228 = .ok (.aload_n 0, 1) := by decide +kernel
theorem dL_areLettersSo_229 : decode cL_areLettersSo 229 = .ok (.iload_n 3, 1) := by decide +kernel
theorem dL_areLettersSo_230 : decode cL_areLettersSo 230 = .ok (.iconst 2, 1) := by decide +kernel
theorem dL_areLettersSo_231 : decode cL_areLettersSo 231 = .ok (.invokevirtual 20, 3) := by decide +kernel
theorem dL_areLettersSo_234 : decode cL_areLettersSo 234 = .ok (.aload_n 0, 1) := by decide +kernel
theorem dL_areLettersSo_235 : decode cL_areLettersSo 235 = .ok (.iload_n 3, 1) := by decide +kernel
theorem dL_areLettersSo_236 : decode cL_areLettersSo 236 = .ok (.iconst 1, 1) := by decide +kernel
theorem dL_areLettersSo_237 : decode cL_areLettersSo 237 = .ok (.invokevirtual 20, 3) := by decide +kernel
theorem dL_areLettersSo_240 : decode cL_areLettersSo 240 = .ok (.if_icmp .gt 34, 3) := by decide +kernel
theorem dL_areLettersSo_243 : decode cL_areLettersSo 243 = .ok (.iload 8, 2) := by decide +kernel
theorem dL_areLettersSo_245 : decode cL_areLettersSo 245 = .ok (.iload 4, 2) := by decide +kernel
theorem dL_areLettersSo_247 : decode cL_areLettersSo 247 = .ok (.iconst 1, 1) := by decide +kernel
theorem dL_areLettersSo_248 : decode cL_areLettersSo 248 = .ok (.if_icmp .ne 18, 3) := by decide +kernel
theorem dL_areLettersSo_251 : decode cL_areLettersSo 251 = .ok (.aload_n 0, 1) := by decide +kernel
theorem dL_areLettersSo_252 : decode cL_areLettersSo 252 = .ok (.iload_n 3, 1) := by decide +kernel
theorem dL_areLettersSo_253 : decode cL_areLettersSo 253 = .ok (.iconst 2, 1) := by decide +kernel
theorem dL_areLettersSo_254 : decode cL_areLettersSo 254 = .ok (.invokevirtual 20, 3) := by decide +kernel
theorem dL_areLettersSo_257 : decode cL_areLettersSo 257 = .ok (.aload_n 2, 1) := by decide +kernel
theorem dL_areLettersSo_258 : decode cL_areLettersSo 258 = .ok (.iload_n 3, 1) := by decide +kernel
theorem dL_areLettersSo_259 : decode cL_areLettersSo 259 = .ok (.iaload, 1) := by decide +kernel
theorem dL_areLettersSo_260 : decode cL_areLettersSo 260 = .ok (.iconst 2, 1) := by decide +kernel
theorem dL_areLettersSo_261 : decode cL_areLettersSo 261 = .ok (.idiv, 1) := by decide +kernel
theorem dL_areLettersSo_262 : decode cL_areLettersSo 262 = .ok (.iadd, 1) := by decide +kernel
theorem dL_areLettersSo_263 : decode cL_areLettersSo 263 = .ok (.goto 4, 3) := by decide +kernel
theorem dL_areLettersSo_266 : decode cL_areLettersSo 266 = .ok (.iconst 0, 1) := by decide +kernel
theorem dL_areLettersSo_267 : decode cL_areLettersSo 267 = .ok (.if_icmp .ne 7, 3) := by decide +kernel
theorem dL_areLettersSo_270 : decode cL_areLettersSo 270 = .ok (.iconst 1, 1) := by decide +kernel
theorem dL_areLettersSo_271 : decode cL_areLettersSo 271 = .ok (.goto 4, 3) := by decide +kernel
theorem dL_areLettersSo_274 : decode cL_areLettersSo 274 = .ok (.iconst 0, 1) := by decide +kernel
theorem dL_areLettersSo_275 : decode cL_areLettersSo 275 = .ok (.istore_n 1, 1) := by decide +kernel
theorem dL_areLettersSo_276 : decode cL_areLettersSo 276 = .ok (.iload_n 1, 1) := by decide +kernel
theorem dL_areLettersSo_277 : decode cL_areLettersSo 277 = .ok (.ifCond .eq 118, 3) := by decide +kernel
theorem dL_areLettersSo_280 : decode cL_areLettersSo 280 = .ok (.iload 5, 2) := by decide +kernel
theorem dL_areLettersSo_282 : decode cL_areLettersSo 282 = .ok (.bipush (-6), 2) := by decide +kernel
theorem dL_areLettersSo_284 : decode cL_areLettersSo 284 = .ok (.if_icmp .ne 16, 3) := by decide +kernel
theorem dL_areLettersSo_287 : decode cL_areLettersSo 287 = .ok (.aload_n 0, 1) := by decide +kernel
theorem dL_areLettersSo_288 : decode cL_areLettersSo 288 = .ok (.iload_n 3, 1) := by decide +kernel
theorem dL_areLettersSo_289 : decode cL_areLettersSo 289 = .ok (.bipush 9, 2) := by decide +kernel
theorem dL_areLettersSo_291 : decode cL_areLettersSo 291 = .ok (.invokevirtual 20, 3) := by decide +kernel
theorem dL_areLettersSo_294 : decode cL_areLettersSo 294 = .ok (.ifCond .ne 101, 3) := by decide +kernel
theorem dL_areLettersSo_297 : decode cL_areLettersSo 297 = .ok (.goto 56, 3) := by decide +kernel
theorem dL_areLettersSo_300 : decode cL_areLettersSo 300 = .ok (.iload 5, 2) := by decide +kernel
theorem dL_areLettersSo_302 : decode cL_areLettersSo 302 = .ok (.iload_n 3, 1) := by decide +kernel
theorem dL_areLettersSo_303 : decode cL_areLettersSo 303 = .ok (.if_icmp .ge 92, 3) := by decide +kernel
theorem dL_areLettersSo_306 : decode cL_areLettersSo 306 = .ok (.aload_n 0, 1) := by decide +kernel
theorem dL_areLettersSo_307 : decode cL_areLettersSo 307 = .ok (.iload 5, 2) := by decide +kernel
theorem dL_areLettersSo_309 : decode cL_areLettersSo 309 = .ok (.iconst 4, 1) := by decide +kernel
theorem dL_areLettersSo_310 : decode cL_areLettersSo 310 = .ok (.invokevirtual 20, 3) := by decide +kernel
theorem dL_areLettersSo_313 : decode cL_areLettersSo 313 = .ok (.iconst 1, 1) := by decide +kernel
theorem dL_areLettersSo_314 : decode cL_areLettersSo 314 = .ok (.if_icmp .ne 81, 3) := by decide +kernel
theorem dL_areLettersSo_317 : decode cL_areLettersSo 317 = .ok (.aload_n 0, 1) := by decide +kernel
theorem dL_areLettersSo_318 : decode cL_areLettersSo 318 = .ok (.iload_n 3, 1) := by decide +kernel
theorem dL_areLettersSo_319 : decode cL_areLettersSo 319 = .ok (.bipush 9, 2) := by decide +kernel
theorem dL_areLettersSo_321 : decode cL_areLettersSo 321 = .ok (.invokevirtual 20, 3) := by decide +kernel
theorem dL_areLettersSo_324 : decode cL_areLettersSo 324 = .ok (.aload_n 0, 1) := by decide +kernel
theorem dL_areLettersSo_325 : decode cL_areLettersSo 325 = .ok (.iload 5, 2) := by decide +kernel
theorem dL_areLettersSo_327 : decode cL_areLettersSo 327 = .ok (.bipush 9, 2) := by decide +kernel
theorem dL_areLettersSo_329 : decode cL_areLettersSo 329 = .ok (.invokevirtual 20, 3) := by decide +kernel
theorem dL_areLettersSo_332 : decode cL_areLettersSo 332 = .ok (.iconst 1, 1) := by decide +kernel
theorem dL_areLettersSo_333 : decode cL_areLettersSo 333 = .ok (.iadd, 1) := by decide +kernel
theorem dL_areLettersSo_334 : decode cL_areLettersSo 334 = .ok (.if_icmp .ne 61, 3) := by decide +kernel
theorem dL_areLettersSo_337 : decode cL_areLettersSo 337 = .ok (.aload_n 0, 1) := by decide +kernel
theorem dL_areLettersSo_338 : decode cL_areLettersSo 338 = .ok (.iload 5, 2) := by decide +kernel
theorem dL_areLettersSo_340 : decode cL_areLettersSo 340 = .ok (.iconst 5, 1) := by decide +kernel
theorem dL_areLettersSo_341 : decode cL_areLettersSo 341 = .ok (.invokevirtual 20, 3) := by decide +kernel
theorem dL_areLettersSo_344 : decode cL_areLettersSo 344 = .ok (.aload_n 0, 1) := by decide +kernel
theorem dL_areLettersSo_345 : decode cL_areLettersSo 345 = .ok (.iload_n 3, 1) := by decide +kernel
theorem dL_areLettersSo_346 : decode cL_areLettersSo 346 = .ok (.iconst 3, 1) := by decide +kernel
theorem dL_areLettersSo_347 : decode cL_areLettersSo 347 = .ok (.invokevirtual 20, 3) := by decide +kernel
theorem dL_areLettersSo_350 : decode cL_areLettersSo 350 = .ok (.if_icmp .gt 45, 3) := by decide +kernel
theorem dL_areLettersSo_353 : decode cL_areLettersSo 353 = .ok (.aload_n 0, 1) := by decide +kernel
theorem dL_areLettersSo_354 : decode cL_areLettersSo 354 = .ok (.iconst 3, 1) := by decide +kernel
theorem dL_areLettersSo_355 : decode cL_areLettersSo 355 = .ok (.invokevirtual 52, 3) := by decide +kernel
theorem dL_areLettersSo_358 : decode cL_areLettersSo 358 = .ok (.iload_n 3, 1) := by decide +kernel
theorem dL_areLettersSo_359 : decode cL_areLettersSo 359 = .ok (.lshr, 1) := by decide +kernel
theorem dL_areLettersSo_360 : decode cL_areLettersSo 360 = .ok (.lconst 1, 1) := by decide +kernel
theorem dL_areLettersSo_361 : decode cL_areLettersSo 361 = .ok (.land, 1) := by decide +kernel
theorem dL_areLettersSo_362 : decode cL_areLettersSo 362 = .ok (.iload 10, 2) := by decide +kernel
theorem dL_areLettersSo_364 : decode cL_areLettersSo 364 = .ok (.ifCond .eq 7, 3) := by decide +kernel
theorem dL_areLettersSo_367 : decode cL_areLettersSo 367 = .ok (.lconst 1, 1) := by decide +kernel
theorem dL_areLettersSo_368 : decode cL_areLettersSo 368 = .ok (.goto 4, 3) := by decide +kernel
theorem dL_areLettersSo_371 : decode cL_areLettersSo 371 = .ok (.lconst 0, 1) := by decide +kernel
theorem dL_areLettersSo_372 : decode cL_areLettersSo 372 = .ok (.lcmp, 1) := by decide +kernel
theorem dL_areLettersSo_373 : decode cL_areLettersSo 373 = .ok (.ifCond .ne 22, 3) := by decide +kernel
theorem dL_areLettersSo_376 : decode cL_areLettersSo 376 = .ok (.aload_n 0, 1) := by decide +kernel
theorem dL_areLettersSo_377 : decode cL_areLettersSo 377 = .ok (.iload 4, 2) := by decide +kernel
theorem dL_areLettersSo_379 : decode cL_areLettersSo 379 = .ok (.invokevirtual 52, 3) := by decide +kernel
theorem dL_areLettersSo_382 : decode cL_areLettersSo 382 = .ok (.iload_n 3, 1) := by decide +kernel
theorem dL_areLettersSo_383 : decode cL_areLettersSo 383 = .ok (.lshr, 1) := by decide +kernel
theorem dL_areLettersSo_384 : decode cL_areLettersSo 384 = .ok (.lconst 1, 1) := by decide +kernel
theorem dL_areLettersSo_385 : decode cL_areLettersSo 385 = .ok (.land, 1) := by decide +kernel
theorem dL_areLettersSo_386 : decode cL_areLettersSo 386 = .ok (.lconst 1, 1) := by decide +kernel
theorem dL_areLettersSo_387 : decode cL_areLettersSo 387 = .ok (.lcmp, 1) := by decide +kernel
theorem dL_areLettersSo_388 : decode cL_areLettersSo 388 = .ok (.ifCond .ne 7, 3) := by decide +kernel
theorem dL_areLettersSo_391 : decode cL_areLettersSo 391 = .ok (.iconst 1, 1) := by decide +kernel
theorem dL_areLettersSo_392 : decode cL_areLettersSo 392 = .ok (.goto 4, 3) := by decide +kernel
theorem dL_areLettersSo_395 : decode cL_areLettersSo 395 = .ok (.iconst 0, 1) := by decide +kernel
theorem dL_areLettersSo_396 : decode cL_areLettersSo 396 = .ok (.istore_n 1, 1) := by decide +kernel
theorem dL_areLettersSo_397 : decode cL_areLettersSo 397 = .ok (.iload 5, 2) := by decide +kernel
theorem dL_areLettersSo_399 : decode cL_areLettersSo 399 = .ok (.ifCond .lt 25, 3) := by decide +kernel
theorem dL_areLettersSo_402 : decode cL_areLettersSo 402 = .ok (.aload_n 2, 1) := by decide +kernel
theorem dL_areLettersSo_403 : decode cL_areLettersSo 403 = .ok (.iload 5, 2) := by decide +kernel
theorem dL_areLettersSo_405 : decode cL_areLettersSo 405 = .ok (.iload 8, 2) := by decide +kernel
theorem dL_areLettersSo_407 : decode cL_areLettersSo 407 = .ok (.aload_n 2, 1) := by decide +kernel
theorem dL_areLettersSo_408 : decode cL_areLettersSo 408 = .ok (.iload 5, 2) := by decide +kernel
theorem dL_areLettersSo_410 : decode cL_areLettersSo 410 = .ok (.iaload, 1) := by decide +kernel
theorem dL_areLettersSo_411 : decode cL_areLettersSo 411 = .ok (.if_icmp .le 8, 3) := by decide +kernel
theorem dL_areLettersSo_414 : decode cL_areLettersSo 414 = .ok (.iload 8, 2) := by decide +kernel
theorem dL_areLettersSo_416 : decode cL_areLettersSo 416 = .ok (.goto 7, 3) := by decide +kernel
theorem dL_areLettersSo_419 : decode cL_areLettersSo 419 = .ok (.aload_n 2, 1) := by decide +kernel
theorem dL_areLettersSo_420 : decode cL_areLettersSo 420 = .ok (.iload 5, 2) := by decide +kernel
theorem dL_areLettersSo_422 : decode cL_areLettersSo 422 = .ok (.iaload, 1) := by decide +kernel
theorem dL_areLettersSo_423 : decode cL_areLettersSo 423 = .ok (.iastore, 1) := by decide +kernel
theorem dL_areLettersSo_424 : decode cL_areLettersSo 424 = .ok (.iinc 3 (-1), 3) := by decide +kernel
theorem dL_areLettersSo_427 : decode cL_areLettersSo 427 = .ok (.goto (-394), 3) := by decide +kernel
theorem dL_areLettersSo_430 : decode cL_areLettersSo 430 = .ok (.iload_n 1, 1) := by decide +kernel
theorem dL_areLettersSo_431 : decode cL_areLettersSo 431 = .ok (.ireturn, 1) := by decide +kernel
set_option maxRecDepth 20000 in
theorem ggL_areDrawersSo_X6_count : GoodIn wsL_areDrawersSo wsX6_count := goodIn_r _ [5, 6, 7, 8, 9, 10, 11, 12, 13, 14, 15, 16, 17, 18, 19, 20, 21, 22, 23, 24, 25, 26, 27, 28, 29, 30, 31, 32, 33, 34, 35, 36, 37, 38, 39, 40, 41, 42, 43, 44, 153, 154, 155, 156, 157, 158, 159, 160, 161, 162, 163, 164, 165, 166, 167, 168, 169, 170, 171, 172, 173, 174, 175, 176, 177, 178, 179, 180, 181, 182] (by decide +kernel) (by decide +kernel)
set_option maxRecDepth 20000 in
theorem gL_areDrawersSo_X6_count : GoodIn wsL_areDrawersSo (wsV RL 8 RX6 yX6_count wsX6_count) := goodIn_app (goodIn_of _ (by decide +kernel)) ggL_areDrawersSo_X6_count
set_option maxRecDepth 20000 in
theorem ggL_areDrawersSo_X6_ofLetter : GoodIn wsL_areDrawersSo wsX6_ofLetter := goodIn_r _ [48, 6, 7, 49, 50, 51, 52, 53, 54, 55, 56, 57, 58, 28, 59, 30, 60, 61, 62, 18, 63, 64, 65, 66, 67, 68, 69, 70, 71, 72, 73, 74, 16, 17, 19, 20, 75, 76, 77, 78, 79, 80, 81, 82, 83, 84, 85, 86, 87, 88, 89, 90, 91, 92, 93, 94, 95, 96, 97, 98, 99, 100, 101, 153, 154, 155, 156, 157, 158, 159, 160, 161, 162, 163, 164, 165, 166, 167, 168, 169, 183] (by decide +kernel) (by decide +kernel)
set_option maxRecDepth 20000 in
theorem gL_areDrawersSo_X6_ofLetter : GoodIn wsL_areDrawersSo (wsV RL 20 RX6 yX6_ofLetter wsX6_ofLetter) := goodIn_app (goodIn_of _ (by decide +kernel)) ggL_areDrawersSo_X6_ofLetter
set_option maxRecDepth 20000 in
theorem ggL_areDrawersSo_X6_ofDrawer : GoodIn wsL_areDrawersSo wsX6_ofDrawer := goodIn_r _ [105, 6, 9, 7, 106, 107, 108, 109, 110, 111, 4, 112, 113, 114, 115, 28, 116, 30, 117, 31, 118, 119, 120, 18, 121, 64, 122, 123, 124, 125, 126, 127, 61, 62, 63, 65, 66, 67, 68, 69, 70, 71, 72, 73, 74, 16, 17, 19, 20, 153, 154, 155, 156, 157, 158, 159, 160, 161, 179, 180, 181, 182, 162, 163, 164, 165, 166, 167, 168, 169] (by decide +kernel) (by decide +kernel)
set_option maxRecDepth 20000 in
theorem gL_areDrawersSo_X6_ofDrawer : GoodIn wsL_areDrawersSo (wsV RL 49 RX6 yX6_ofDrawer wsX6_ofDrawer) := goodIn_app (goodIn_of _ (by decide +kernel)) ggL_areDrawersSo_X6_ofDrawer
set_option maxRecDepth 20000 in
theorem ggL_areDrawersSo_X6_letters : GoodIn wsL_areDrawersSo wsX6_letters := goodIn_r _ [131, 6, 7, 132, 25, 26, 27, 28, 29, 30, 31, 133, 134, 135, 18, 136, 64, 122, 137, 138, 123, 124, 125, 126, 117, 74, 16, 17, 19, 20, 139, 140, 141, 142, 68, 69, 143, 67, 144, 70, 71, 72, 73, 153, 154, 155, 156, 157, 158, 159, 160, 161, 162, 163, 164, 165, 166, 167, 168, 169, 179, 180, 181, 182] (by decide +kernel) (by decide +kernel)
set_option maxRecDepth 20000 in
theorem gL_areDrawersSo_X6_letters : GoodIn wsL_areDrawersSo (wsV RL 52 RX6 yX6_letters wsX6_letters) := goodIn_app (goodIn_of _ (by decide +kernel)) ggL_areDrawersSo_X6_letters
set_option maxRecDepth 20000 in
theorem ggL_areDrawersSo_X6_share : GoodIn wsL_areDrawersSo wsX6_share := goodIn_r _ [148, 6, 7, 8, 25, 26, 27, 28, 29, 30, 31, 32, 33, 34, 35, 36, 37, 38, 149, 150, 4, 151, 152, 153, 154, 155, 156, 157, 158, 159, 160, 161, 162, 163, 164, 165, 166, 167, 168, 169] (by decide +kernel) (by decide +kernel)
set_option maxRecDepth 20000 in
theorem gL_areDrawersSo_X6_share : GoodIn wsL_areDrawersSo (wsV RL 56 RX6 yX6_share wsX6_share) := goodIn_app (goodIn_of _ (by decide +kernel)) ggL_areDrawersSo_X6_share
theorem dL_areDrawersSo_0 : decode cL_areDrawersSo 0 = .ok (.iconst 0, 1) := by decide +kernel
theorem dL_areDrawersSo_1 : decode cL_areDrawersSo 1 = .ok (.istore_n 1, 1) := by decide +kernel
theorem dL_areDrawersSo_2 : decode cL_areDrawersSo 2 = .ok (.iconst 0, 1) := by decide +kernel
theorem dL_areDrawersSo_3 : decode cL_areDrawersSo 3 = .ok (.istore_n 2, 1) := by decide +kernel
theorem dL_areDrawersSo_4 : decode cL_areDrawersSo 4 = .ok (.iconst 0, 1) := by decide +kernel
theorem dL_areDrawersSo_5 : decode cL_areDrawersSo 5 = .ok (.istore_n 3, 1) := by decide +kernel
theorem dL_areDrawersSo_6 : decode cL_areDrawersSo 6 = .ok (.iconst 0, 1) := by decide +kernel
theorem dL_areDrawersSo_7 : decode cL_areDrawersSo 7 = .ok (.istore 4, 2) := by decide +kernel
theorem dL_areDrawersSo_9 : decode cL_areDrawersSo 9 = .ok (.iconst 1, 1) := by decide +kernel
theorem dL_areDrawersSo_10 : decode cL_areDrawersSo 10 = .ok (.istore 5, 2) := by decide +kernel
theorem dL_areDrawersSo_12 : decode cL_areDrawersSo 12 = .ok (.iconst 0, 1) := by decide +kernel
theorem dL_areDrawersSo_13 : decode cL_areDrawersSo 13 = .ok (.istore 6, 2) := by decide +kernel
theorem dL_areDrawersSo_15 : decode cL_areDrawersSo 15 = .ok (.iload 6, 2) := by decide +kernel
theorem dL_areDrawersSo_17 : decode cL_areDrawersSo 17 = .ok (.bipush 6, 2) := by decide +kernel
theorem dL_areDrawersSo_19 : decode cL_areDrawersSo 19 = .ok (.if_icmp .ge 245, 3) := by decide +kernel
theorem dL_areDrawersSo_22 : decode cL_areDrawersSo 22 = .ok (.iconst 0, 1) := by decide +kernel
theorem dL_areDrawersSo_23 : decode cL_areDrawersSo 23 = .ok (.istore 7, 2) := by decide +kernel
theorem dL_areDrawersSo_25 : decode cL_areDrawersSo 25 = .ok (.iconst 0, 1) := by decide +kernel
theorem dL_areDrawersSo_26 : decode cL_areDrawersSo 26 = .ok (.istore 8, 2) := by decide +kernel
theorem dL_areDrawersSo_28 : decode cL_areDrawersSo 28 = .ok (.iconst 0, 1) := by decide +kernel
theorem dL_areDrawersSo_29 : decode cL_areDrawersSo 29 = .ok (.istore 9, 2) := by decide +kernel
theorem dL_areDrawersSo_31 : decode cL_areDrawersSo 31 = .ok (.iload 9, 2) := by decide +kernel
theorem dL_areDrawersSo_33 : decode cL_areDrawersSo 33 = .ok (.aload_n 0, 1) := by decide +kernel
theorem dL_areDrawersSo_34 : decode cL_areDrawersSo 34 = .ok (.iconst 2, 1) := by decide +kernel
theorem dL_areDrawersSo_35 : decode cL_areDrawersSo 35 = .ok (.invokevirtual 8, 3) := by decide +kernel
theorem dL_areDrawersSo_38 : decode cL_areDrawersSo 38 = .ok (.if_icmp .ge 74, 3) := by decide +kernel
theorem dL_areDrawersSo_41 : decode cL_areDrawersSo 41 = .ok (.aload_n 0, 1) := by decide +kernel
theorem dL_areDrawersSo_42 : decode cL_areDrawersSo 42 = .ok (.iload 9, 2) := by decide +kernel
theorem dL_areDrawersSo_44 : decode cL_areDrawersSo 44 = .ok (.iconst 0, 1) := by decide +kernel
theorem dL_areDrawersSo_45 : decode cL_areDrawersSo 45 = .ok (.invokevirtual 20, 3) := by decide +kernel
theorem dL_areDrawersSo_48 : decode cL_areDrawersSo 48 = .ok (.iload 6, 2) := by decide +kernel
theorem dL_areDrawersSo_50 : decode cL_areDrawersSo 50 = .ok (.if_icmp .ne 17, 3) := by decide +kernel
theorem dL_areDrawersSo_53 : decode cL_areDrawersSo 53 = .ok (.aload_n 0, 1) := by decide +kernel
theorem dL_areDrawersSo_54 : decode cL_areDrawersSo 54 = .ok (.iload 9, 2) := by decide +kernel
theorem dL_areDrawersSo_56 : decode cL_areDrawersSo 56 = .ok (.iconst 4, 1) := by decide +kernel
theorem dL_areDrawersSo_57 : decode cL_areDrawersSo 57 = .ok (.invokevirtual 20, 3) := by decide +kernel
theorem dL_areDrawersSo_60 : decode cL_areDrawersSo 60 = .ok (.ifCond .ne 7, 3) := by decide +kernel
theorem dL_areDrawersSo_63 : decode cL_areDrawersSo 63 = .ok (.iconst 1, 1) := by decide +kernel
theorem dL_areDrawersSo_64 : decode cL_areDrawersSo 64 = .ok (.goto 4, 3) := by decide +kernel
theorem dL_areDrawersSo_67 : decode cL_areDrawersSo 67 = .ok (.iconst 0, 1) := by decide +kernel
theorem dL_areDrawersSo_68 : decode cL_areDrawersSo 68 = .ok (.istore 10, 2) := by decide +kernel
theorem dL_areDrawersSo_70 : decode cL_areDrawersSo 70 = .ok (.iload 7, 2) := by decide +kernel
theorem dL_areDrawersSo_72 : decode cL_areDrawersSo 72 = .ok (.iload 10, 2) := by decide +kernel
theorem dL_areDrawersSo_74 : decode cL_areDrawersSo 74 = .ok (.ifCond .eq 7, 3) := by decide +kernel
theorem dL_areDrawersSo_77 : decode cL_areDrawersSo 77 = .ok (.iconst 1, 1) := by decide +kernel
theorem dL_areDrawersSo_78 : decode cL_areDrawersSo 78 = .ok (.goto 4, 3) := by decide +kernel
theorem dL_areDrawersSo_81 : decode cL_areDrawersSo 81 = .ok (.iconst 0, 1) := by decide +kernel
theorem dL_areDrawersSo_82 : decode cL_areDrawersSo 82 = .ok (.iadd, 1) := by decide +kernel
theorem dL_areDrawersSo_83 : decode cL_areDrawersSo 83 = .ok (.istore 7, 2) := by decide +kernel
theorem dL_areDrawersSo_85 : decode cL_areDrawersSo 85 = .ok (.iload 8, 2) := by decide +kernel
theorem dL_areDrawersSo_87 : decode cL_areDrawersSo 87 = .ok (.iload 10, 2) := by decide +kernel
theorem dL_areDrawersSo_89 : decode cL_areDrawersSo 89 = .ok (.ifCond .eq 13, 3) := by decide +kernel
theorem dL_areDrawersSo_92 : decode cL_areDrawersSo 92 = .ok (.aload_n 0, 1) := by decide +kernel
theorem dL_areDrawersSo_93 : decode cL_areDrawersSo 93 = .ok (.iload 9, 2) := by decide +kernel
theorem dL_areDrawersSo_95 : decode cL_areDrawersSo 95 = .ok (.iconst 2, 1) := by decide +kernel
theorem dL_areDrawersSo_96 : decode cL_areDrawersSo 96 = .ok (.invokevirtual 20, 3) := by decide +kernel
theorem dL_areDrawersSo_99 : decode cL_areDrawersSo 99 = .ok (.goto 4, 3) := by decide +kernel
theorem dL_areDrawersSo_102 : decode cL_areDrawersSo 102 = .ok (.iconst 0, 1) := by decide +kernel
theorem dL_areDrawersSo_103 : decode cL_areDrawersSo 103 = .ok (.iadd, 1) := by decide +kernel
theorem dL_areDrawersSo_104 : decode cL_areDrawersSo 104 = .ok (.istore 8, 2) := by decide +kernel
theorem dL_areDrawersSo_106 : decode cL_areDrawersSo 106 = .ok (.iinc 9 1, 3) := by decide +kernel
theorem dL_areDrawersSo_109 : decode cL_areDrawersSo 109 = .ok (.goto (-78), 3) := by decide +kernel
theorem dL_areDrawersSo_112 : decode cL_areDrawersSo 112 = .ok (.iload_n 1, 1) := by decide +kernel
theorem dL_areDrawersSo_113 : decode cL_areDrawersSo 113 = .ok (.iload 7, 2) := by decide +kernel
theorem dL_areDrawersSo_115 : decode cL_areDrawersSo 115 = .ok (.iadd, 1) := by decide +kernel
theorem dL_areDrawersSo_116 : decode cL_areDrawersSo 116 = .ok (.istore_n 1, 1) := by decide +kernel
theorem dL_areDrawersSo_117 : decode cL_areDrawersSo 117 = .ok (.iload_n 2, 1) := by decide +kernel
theorem dL_areDrawersSo_118 : decode cL_areDrawersSo 118 = .ok (.aload_n 0, 1) := by decide +kernel
theorem dL_areDrawersSo_119 : decode cL_areDrawersSo 119 = .ok (.iload 6, 2) := by decide +kernel
theorem dL_areDrawersSo_121 : decode cL_areDrawersSo 121 = .ok (.bipush 6, 2) := by decide +kernel
theorem dL_areDrawersSo_123 : decode cL_areDrawersSo 123 = .ok (.invokevirtual 49, 3) := by decide +kernel
theorem dL_areDrawersSo_126 : decode cL_areDrawersSo 126 = .ok (.iadd, 1) := by decide +kernel
theorem dL_areDrawersSo_127 : decode cL_areDrawersSo 127 = .ok (.istore_n 2, 1) := by decide +kernel
theorem dL_areDrawersSo_128 : decode cL_areDrawersSo 128 = .ok (.iload_n 3, 1) := by decide +kernel
theorem dL_areDrawersSo_129 : decode cL_areDrawersSo 129 = .ok (.aload_n 0, 1) := by decide +kernel
theorem dL_areDrawersSo_130 : decode cL_areDrawersSo 130 = .ok (.iload 6, 2) := by decide +kernel
theorem dL_areDrawersSo_132 : decode cL_areDrawersSo 132 = .ok (.bipush 7, 2) := by decide +kernel
theorem dL_areDrawersSo_134 : decode cL_areDrawersSo 134 = .ok (.invokevirtual 49, 3) := by decide +kernel
theorem dL_areDrawersSo_137 : decode cL_areDrawersSo 137 = .ok (.iadd, 1) := by decide +kernel
theorem dL_areDrawersSo_138 : decode cL_areDrawersSo 138 = .ok (.istore_n 3, 1) := by decide +kernel
theorem dL_areDrawersSo_139 : decode cL_areDrawersSo 139 = .ok (.iload 4, 2) := by decide +kernel
theorem dL_areDrawersSo_141 : decode cL_areDrawersSo 141 = .ok (.aload_n 0, 1) := by decide +kernel
theorem dL_areDrawersSo_142 : decode cL_areDrawersSo 142 = .ok (.iload 6, 2) := by decide +kernel
theorem dL_areDrawersSo_144 : decode cL_areDrawersSo 144 = .ok (.iconst 1, 1) := by decide +kernel
theorem dL_areDrawersSo_145 : decode cL_areDrawersSo 145 = .ok (.invokevirtual 49, 3) := by decide +kernel
theorem dL_areDrawersSo_148 : decode cL_areDrawersSo 148 = .ok (.iadd, 1) := by decide +kernel
theorem dL_areDrawersSo_149 : decode cL_areDrawersSo 149 = .ok (.istore 4, 2) := by decide +kernel
theorem dL_areDrawersSo_151 : decode cL_areDrawersSo 151 = .ok (.iload 5, 2) := by decide +kernel
theorem dL_areDrawersSo_153 : decode cL_areDrawersSo 153 = .ok (.ifCond .eq 102, 3) := by decide +kernel
theorem dL_areDrawersSo_156 : decode cL_areDrawersSo 156 = .ok (.iload 7, 2) := by decide +kernel
theorem dL_areDrawersSo_158 : decode cL_areDrawersSo 158 = .ok (.aload_n 0, 1) := by decide +kernel
theorem dL_areDrawersSo_159 : decode cL_areDrawersSo 159 = .ok (.iload 6, 2) := by decide +kernel
theorem dL_areDrawersSo_161 : decode cL_areDrawersSo 161 = .ok (.iconst 0, 1) := by decide +kernel
theorem dL_areDrawersSo_162 : decode cL_areDrawersSo 162 = .ok (.invokevirtual 49, 3) := by decide +kernel
theorem dL_areDrawersSo_165 : decode cL_areDrawersSo 165 = .ok (.if_icmp .ne 90, 3) := by decide +kernel
theorem dL_areDrawersSo_168 : decode cL_areDrawersSo 168 = .ok (.iload 7, 2) := by decide +kernel
theorem dL_areDrawersSo_170 : decode cL_areDrawersSo 170 = .ok (.bipush 8, 2) := by decide +kernel
theorem dL_areDrawersSo_172 : decode cL_areDrawersSo 172 = .ok (.if_icmp .gt 83, 3) := by decide +kernel
theorem dL_areDrawersSo_175 : decode cL_areDrawersSo 175 = .ok (.iload 8, 2) := by decide +kernel
theorem dL_areDrawersSo_177 : decode cL_areDrawersSo 177 = .ok (.aload_n 0, 1) := by decide +kernel
theorem dL_areDrawersSo_178 : decode cL_areDrawersSo 178 = .ok (.iload 6, 2) := by decide +kernel
theorem dL_areDrawersSo_180 : decode cL_areDrawersSo 180 = .ok (.iconst 5, 1) := by decide +kernel
theorem dL_areDrawersSo_181 : decode cL_areDrawersSo 181 = .ok (.invokevirtual 49, 3) := by decide +kernel
theorem dL_areDrawersSo_184 : decode cL_areDrawersSo 184 = .ok (.if_icmp .ne 71, 3) := by decide +kernel
theorem dL_areDrawersSo_187 : decode cL_areDrawersSo 187 = .ok (.aload_n 0, 1) := by decide +kernel
theorem dL_areDrawersSo_188 : decode cL_areDrawersSo 188 = .ok (.iload 6, 2) := by decide +kernel
theorem dL_areDrawersSo_190 : decode cL_areDrawersSo 190 = .ok (.iconst 3, 1) := by decide +kernel
theorem dL_areDrawersSo_191 : decode cL_areDrawersSo 191 = .ok (.invokevirtual 49, 3) := by decide +kernel
theorem dL_areDrawersSo_194 : decode cL_areDrawersSo 194 = .ok (.bipush (-6), 2) := by decide +kernel
theorem dL_areDrawersSo_196 : decode cL_areDrawersSo 196 = .ok (.if_icmp .ne 7, 3) := by decide +kernel
theorem dL_areDrawersSo_199 : decode cL_areDrawersSo 199 = .ok (.iconst 1, 1) := by decide +kernel
theorem dL_areDrawersSo_200 : decode cL_areDrawersSo 200 = .ok (.goto 4, 3) := by decide +kernel
theorem dL_areDrawersSo_203 : decode cL_areDrawersSo 203 = .ok (.iconst 0, 1) := by decide +kernel
theorem dL_areDrawersSo_204 : decode cL_areDrawersSo 204 = .ok (.aload_n 0, 1) := by decide +kernel
theorem dL_areDrawersSo_205 : decode cL_areDrawersSo 205 = .ok (.iload 6, 2) := by decide +kernel
theorem dL_areDrawersSo_207 : decode cL_areDrawersSo 207 = .ok (.iconst 4, 1) := by decide +kernel
theorem dL_areDrawersSo_208 : decode cL_areDrawersSo 208 = .ok (.invokevirtual 49, 3) := by decide +kernel
theorem dL_areDrawersSo_211 : decode cL_areDrawersSo 211 = .ok (.bipush (-6), 2) := by decide +kernel
theorem dL_areDrawersSo_213 : decode cL_areDrawersSo 213 = .ok (.if_icmp .ne 7, 3) := by decide +kernel
theorem dL_areDrawersSo_216 : decode cL_areDrawersSo 216 = .ok (.iconst 1, 1) := by decide +kernel
theorem dL_areDrawersSo_217 : decode cL_areDrawersSo 217 = .ok (.goto 4, 3) := by decide +kernel
theorem dL_areDrawersSo_220 : decode cL_areDrawersSo 220 = .ok (.iconst 0, 1) := by decide +kernel
theorem dL_areDrawersSo_221 : decode cL_areDrawersSo 221 = .ok (.if_icmp .ne 34, 3) := by decide +kernel
theorem dL_areDrawersSo_224 : decode cL_areDrawersSo 224 = .ok (.aload_n 0, 1) := by decide +kernel
theorem dL_areDrawersSo_225 : decode cL_areDrawersSo 225 = .ok (.iload 6, 2) := by decide +kernel
theorem dL_areDrawersSo_227 : decode cL_areDrawersSo 227 = .ok (.iconst 3, 1) := by decide +kernel
theorem dL_areDrawersSo_228 : decode cL_areDrawersSo 228 = .ok (.invokevirtual 49, 3) := by decide +kernel
theorem dL_areDrawersSo_231 : decode cL_areDrawersSo 231 = .ok (.ifCond .lt 20, 3) := by decide +kernel
theorem dL_areDrawersSo_234 : decode cL_areDrawersSo 234 = .ok (.aload_n 0, 1) := by decide +kernel
theorem dL_areDrawersSo_235 : decode cL_areDrawersSo 235 = .ok (.iload 6, 2) := by decide +kernel
theorem dL_areDrawersSo_237 : decode cL_areDrawersSo 237 = .ok (.iconst 3, 1) := by decide +kernel
theorem dL_areDrawersSo_238 : decode cL_areDrawersSo 238 = .ok (.invokevirtual 49, 3) := by decide +kernel
theorem dL_areDrawersSo_241 : decode cL_areDrawersSo 241 = .ok (.aload_n 0, 1) := by decide +kernel
theorem dL_areDrawersSo_242 : decode cL_areDrawersSo 242 = .ok (.iload 6, 2) := by decide +kernel
theorem dL_areDrawersSo_244 : decode cL_areDrawersSo 244 = .ok (.iconst 4, 1) := by decide +kernel
theorem dL_areDrawersSo_245 : decode cL_areDrawersSo 245 = .ok (.invokevirtual 49, 3) := by decide +kernel
theorem dL_areDrawersSo_248 : decode cL_areDrawersSo 248 = .ok (.if_icmp .eq 7, 3) := by decide +kernel
theorem dL_areDrawersSo_251 : decode cL_areDrawersSo 251 = .ok (.iconst 1, 1) := by decide +kernel
theorem dL_areDrawersSo_252 : decode cL_areDrawersSo 252 = .ok (.goto 4, 3) := by decide +kernel
theorem dL_areDrawersSo_255 : decode cL_areDrawersSo 255 = .ok (.iconst 0, 1) := by decide +kernel
theorem dL_areDrawersSo_256 : decode cL_areDrawersSo 256 = .ok (.istore 5, 2) := by decide +kernel
theorem dL_areDrawersSo_258 : decode cL_areDrawersSo 258 = .ok (.iinc 6 1, 3) := by decide +kernel
theorem dL_areDrawersSo_261 : decode cL_areDrawersSo 261 = .ok (.goto (-246), 3) := by decide +kernel
theorem dL_areDrawersSo_264 : decode cL_areDrawersSo 264 = .ok (.iload 5, 2) := by decide +kernel
theorem dL_areDrawersSo_266 : decode cL_areDrawersSo 266 = .ok (.ifCond .eq 136, 3) := by decide +kernel
theorem dL_areDrawersSo_269 : decode cL_areDrawersSo 269 = .ok (.iload_n 1, 1) := by decide +kernel
theorem dL_areDrawersSo_270 : decode cL_areDrawersSo 270 = .ok (.aload_n 0, 1) := by decide +kernel
theorem dL_areDrawersSo_271 : decode cL_areDrawersSo 271 = .ok (.iconst 3, 1) := by decide +kernel
theorem dL_areDrawersSo_272 : decode cL_areDrawersSo 272 = .ok (.invokevirtual 8, 3) := by decide +kernel
theorem dL_areDrawersSo_275 : decode cL_areDrawersSo 275 = .ok (.if_icmp .ne 127, 3) := by decide +kernel
theorem dL_areDrawersSo_278 : decode cL_areDrawersSo 278 = .ok (.iload_n 2, 1) := by decide +kernel
theorem dL_areDrawersSo_279 : decode cL_areDrawersSo 279 = .ok (.aload_n 0, 1) := by decide +kernel
theorem dL_areDrawersSo_280 : decode cL_areDrawersSo 280 = .ok (.iconst 4, 1) := by decide +kernel
theorem dL_areDrawersSo_281 : decode cL_areDrawersSo 281 = .ok (.invokevirtual 8, 3) := by decide +kernel
theorem dL_areDrawersSo_284 : decode cL_areDrawersSo 284 = .ok (.if_icmp .ne 118, 3) := by decide +kernel
theorem dL_areDrawersSo_287 : decode cL_areDrawersSo 287 = .ok (.iload_n 3, 1) := by decide +kernel
theorem dL_areDrawersSo_288 : decode cL_areDrawersSo 288 = .ok (.aload_n 0, 1) := by decide +kernel
theorem dL_areDrawersSo_289 : decode cL_areDrawersSo 289 = .ok (.iconst 5, 1) := by decide +kernel
theorem dL_areDrawersSo_290 : decode cL_areDrawersSo 290 = .ok (.invokevirtual 8, 3) := by decide +kernel
theorem dL_areDrawersSo_293 : decode cL_areDrawersSo 293 = .ok (.if_icmp .ne 109, 3) := by decide +kernel
theorem dL_areDrawersSo_296 : decode cL_areDrawersSo 296 = .ok (.iload 4, 2) := by decide +kernel
theorem dL_areDrawersSo_298 : decode cL_areDrawersSo 298 = .ok (.aload_n 0, 1) := by decide +kernel
theorem dL_areDrawersSo_299 : decode cL_areDrawersSo 299 = .ok (.bipush 6, 2) := by decide +kernel
theorem dL_areDrawersSo_301 : decode cL_areDrawersSo 301 = .ok (.invokevirtual 8, 3) := by decide +kernel
theorem dL_areDrawersSo_304 : decode cL_areDrawersSo 304 = .ok (.if_icmp .ne 98, 3) := by decide +kernel
theorem dL_areDrawersSo_307 : decode cL_areDrawersSo 307 = .ok (.iload_n 1, 1) := by decide +kernel
theorem dL_areDrawersSo_308 : decode cL_areDrawersSo 308 = .ok (.iload_n 2, 1) := by decide +kernel
theorem dL_areDrawersSo_309 : decode cL_areDrawersSo 309 = .ok (.iadd, 1) := by decide +kernel
theorem dL_areDrawersSo_310 : decode cL_areDrawersSo 310 = .ok (.iload_n 3, 1) := by decide +kernel
theorem dL_areDrawersSo_311 : decode cL_areDrawersSo 311 = .ok (.iadd, 1) := by decide +kernel
theorem dL_areDrawersSo_312 : decode cL_areDrawersSo 312 = .ok (.aload_n 0, 1) := by decide +kernel
theorem dL_areDrawersSo_313 : decode cL_areDrawersSo 313 = .ok (.iconst 2, 1) := by decide +kernel
theorem dL_areDrawersSo_314 : decode cL_areDrawersSo 314 = .ok (.invokevirtual 8, 3) := by decide +kernel
theorem dL_areDrawersSo_317 : decode cL_areDrawersSo 317 = .ok (.if_icmp .ne 85, 3) := by decide +kernel
theorem dL_areDrawersSo_320 : decode cL_areDrawersSo 320 = .ok (.aload_n 0, 1) := by decide +kernel
theorem dL_areDrawersSo_321 : decode cL_areDrawersSo 321 = .ok (.iconst 0, 1) := by decide +kernel
theorem dL_areDrawersSo_322 : decode cL_areDrawersSo 322 = .ok (.invokevirtual 52, 3) := by decide +kernel
theorem dL_areDrawersSo_325 : decode cL_areDrawersSo 325 = .ok (.aload_n 0, 1) := by decide +kernel
theorem dL_areDrawersSo_326 : decode cL_areDrawersSo 326 = .ok (.iconst 1, 1) := by decide +kernel
theorem dL_areDrawersSo_327 : decode cL_areDrawersSo 327 = .ok (.invokevirtual 52, 3) := by decide +kernel
theorem dL_areDrawersSo_330 : decode cL_areDrawersSo 330 = .ok (.land, 1) := by decide +kernel
theorem dL_areDrawersSo_331 : decode cL_areDrawersSo 331 = .ok (.lconst 0, 1) := by decide +kernel
theorem dL_areDrawersSo_332 : decode cL_areDrawersSo 332 = .ok (.lcmp, 1) := by decide +kernel
theorem dL_areDrawersSo_333 : decode cL_areDrawersSo 333 = .ok (.ifCond .ne 69, 3) := by decide +kernel
theorem dL_areDrawersSo_336 : decode cL_areDrawersSo 336 = .ok (.aload_n 0, 1) := by decide +kernel
theorem dL_areDrawersSo_337 : decode cL_areDrawersSo 337 = .ok (.iconst 0, 1) := by decide +kernel
theorem dL_areDrawersSo_338 : decode cL_areDrawersSo 338 = .ok (.invokevirtual 52, 3) := by decide +kernel
theorem dL_areDrawersSo_341 : decode cL_areDrawersSo 341 = .ok (.aload_n 0, 1) := by decide +kernel
theorem dL_areDrawersSo_342 : decode cL_areDrawersSo 342 = .ok (.iconst 1, 1) := by decide +kernel
theorem dL_areDrawersSo_343 : decode cL_areDrawersSo 343 = .ok (.invokevirtual 52, 3) := by decide +kernel
theorem dL_areDrawersSo_346 : decode cL_areDrawersSo 346 = .ok (.lor, 1) := by decide +kernel
theorem dL_areDrawersSo_347 : decode cL_areDrawersSo 347 = .ok (.aload_n 0, 1) := by decide +kernel
theorem dL_areDrawersSo_348 : decode cL_areDrawersSo 348 = .ok (.iconst 2, 1) := by decide +kernel
theorem dL_areDrawersSo_349 : decode cL_areDrawersSo 349 = .ok (.invokevirtual 52, 3) := by decide +kernel
theorem dL_areDrawersSo_352 : decode cL_areDrawersSo 352 = .ok (.lor, 1) := by decide +kernel
theorem dL_areDrawersSo_353 : decode cL_areDrawersSo 353 = .ok (.lconst 1, 1) := by decide +kernel
theorem dL_areDrawersSo_354 : decode cL_areDrawersSo 354 = .ok (.aload_n 0, 1) := by decide +kernel
theorem dL_areDrawersSo_355 : decode cL_areDrawersSo 355 = .ok (.iconst 2, 1) := by decide +kernel
theorem dL_areDrawersSo_356 : decode cL_areDrawersSo 356 = .ok (.invokevirtual 8, 3) := by decide +kernel
theorem dL_areDrawersSo_359 : decode cL_areDrawersSo 359 = .ok (.lshl, 1) := by decide +kernel
theorem dL_areDrawersSo_360 : decode cL_areDrawersSo 360 = .ok (.lconst 1, 1) := by decide +kernel
theorem dL_areDrawersSo_361 : decode cL_areDrawersSo 361 = .ok (.lsub, 1) := by decide +kernel
theorem dL_areDrawersSo_362 : decode cL_areDrawersSo 362 = .ok (.lcmp, 1) := by decide +kernel
theorem dL_areDrawersSo_363 : decode cL_areDrawersSo 363 = .ok (.ifCond .ne 39, 3) := by decide +kernel
theorem dL_areDrawersSo_366 : decode cL_areDrawersSo 366 = .ok (.aload_n 0, 1) := by decide +kernel
theorem dL_areDrawersSo_367 : decode cL_areDrawersSo 367 = .ok (.invokevirtual 56, 3) := by decide +kernel
theorem dL_areDrawersSo_370 : decode cL_areDrawersSo 370 = .ok (.ifCond .ne 7, 3) := by decide +kernel
theorem dL_areDrawersSo_373 : decode cL_areDrawersSo 373 = .ok (.iconst 1, 1) := by decide +kernel
theorem dL_areDrawersSo_374 : decode cL_areDrawersSo 374 = .ok (.goto 4, 3) := by decide +kernel
theorem dL_areDrawersSo_377 : decode cL_areDrawersSo 377 = .ok (.iconst 0, 1) := by decide +kernel
theorem dL_areDrawersSo_378 : decode cL_areDrawersSo 378 = .ok (.iload_n 2, 1) := by decide +kernel
theorem dL_areDrawersSo_379 : decode cL_areDrawersSo 379 = .ok (.ifCond .ne 15, 3) := by decide +kernel
theorem dL_areDrawersSo_382 : decode cL_areDrawersSo 382 = .ok (.aload_n 0, 1) := by decide +kernel
theorem dL_areDrawersSo_383 : decode cL_areDrawersSo 383 = .ok (.iconst 2, 1) := by decide +kernel
theorem dL_areDrawersSo_384 : decode cL_areDrawersSo 384 = .ok (.invokevirtual 8, 3) := by decide +kernel
theorem dL_areDrawersSo_387 : decode cL_areDrawersSo 387 = .ok (.ifCond .le 7, 3) := by decide +kernel
theorem dL_areDrawersSo_390 : decode cL_areDrawersSo 390 = .ok (.iconst 1, 1) := by decide +kernel
theorem dL_areDrawersSo_391 : decode cL_areDrawersSo 391 = .ok (.goto 4, 3) := by decide +kernel
theorem dL_areDrawersSo_394 : decode cL_areDrawersSo 394 = .ok (.iconst 0, 1) := by decide +kernel
theorem dL_areDrawersSo_395 : decode cL_areDrawersSo 395 = .ok (.if_icmp .ne 7, 3) := by decide +kernel
theorem dL_areDrawersSo_398 : decode cL_areDrawersSo 398 = .ok (.iconst 1, 1) := by decide +kernel
theorem dL_areDrawersSo_399 : decode cL_areDrawersSo 399 = .ok (.goto 4, 3) := by decide +kernel
theorem dL_areDrawersSo_402 : decode cL_areDrawersSo 402 = .ok (.iconst 0, 1) := by decide +kernel
theorem dL_areDrawersSo_403 : decode cL_areDrawersSo 403 = .ok (.ireturn, 1) := by decide +kernel
set_option maxRecDepth 20000 in
theorem ggL_isGoneSo_X6_ofLetter : GoodIn wsL_isGoneSo wsX6_ofLetter := goodIn_r _ [5, 6, 7, 8, 9, 10, 11, 12, 13, 14, 15, 16, 17, 18, 19, 20, 21, 22, 23, 24, 25, 26, 27, 28, 29, 30, 31, 32, 33, 34, 35, 36, 37, 38, 39, 40, 41, 42, 43, 44, 45, 46, 47, 48, 49, 50, 51, 52, 53, 54, 55, 56, 57, 58, 59, 60, 61, 62, 63, 64, 65, 66, 67, 230, 231, 232, 233, 234, 235, 236, 237, 238, 239, 240, 241, 242, 243, 244, 245, 246, 247] (by decide +kernel) (by decide +kernel)
set_option maxRecDepth 20000 in
theorem gL_isGoneSo_X6_ofLetter : GoodIn wsL_isGoneSo (wsV RL 20 RX6 yX6_ofLetter wsX6_ofLetter) := goodIn_app (goodIn_of _ (by decide +kernel)) ggL_isGoneSo_X6_ofLetter
set_option maxRecDepth 20000 in
theorem ggL_isGoneSo_X6_goesIn : GoodIn wsL_isGoneSo wsX6_goesIn := goodIn_r _ [71, 6, 7, 11, 72, 15, 16, 17, 18, 19, 20, 73, 74, 75, 24, 76, 26, 77, 40, 32, 33, 34, 35, 78, 79, 4, 80, 81, 82, 83, 84, 30, 31, 85, 29, 86, 87, 88, 89, 90, 91, 92, 93, 94, 95, 96, 97, 98, 99, 100, 101, 102, 230, 231, 232, 233, 234, 235, 236, 237, 238, 239, 240, 241, 242, 243, 244, 245, 246, 248, 249, 250, 251] (by decide +kernel) (by decide +kernel)
set_option maxRecDepth 20000 in
theorem gL_isGoneSo_X6_goesIn : GoodIn wsL_isGoneSo (wsV RL 60 RX6 yX6_goesIn wsX6_goesIn) := goodIn_app (goodIn_of _ (by decide +kernel)) ggL_isGoneSo_X6_goesIn
set_option maxRecDepth 20000 in
theorem ggL_isGoneSo_X6_count : GoodIn wsL_isGoneSo wsX6_count := goodIn_r _ [106, 6, 7, 107, 108, 72, 109, 110, 111, 112, 113, 37, 38, 24, 39, 40, 114, 115, 116, 117, 118, 119, 120, 18, 121, 20, 122, 123, 124, 125, 126, 127, 128, 129, 130, 131, 132, 94, 133, 97, 230, 231, 232, 233, 234, 235, 236, 237, 238, 239, 240, 241, 242, 243, 244, 245, 246, 252, 253, 254, 255, 256, 257, 258, 259, 260, 248, 249, 250, 251] (by decide +kernel) (by decide +kernel)
set_option maxRecDepth 20000 in
theorem gL_isGoneSo_X6_count : GoodIn wsL_isGoneSo (wsV RL 8 RX6 yX6_count wsX6_count) := goodIn_app (goodIn_of _ (by decide +kernel)) ggL_isGoneSo_X6_count
set_option maxRecDepth 20000 in
theorem ggL_isGoneSo_X6_pass : GoodIn wsL_isGoneSo wsX6_pass := goodIn_r _ [137, 111, 6, 138, 139, 140, 141, 142, 143, 144, 145, 146, 24, 147, 148, 149, 150, 151, 152, 31, 153, 154, 94, 78, 155, 156, 18, 26, 157, 158, 159, 160, 97, 96, 98, 161, 162, 163, 164, 165, 166, 62, 122, 167, 168, 169, 170, 171, 172, 40, 173, 4, 174, 175, 100, 34, 101, 176, 177, 178, 179, 180, 181, 182, 183, 184, 185, 186, 187, 20, 188, 189, 190, 191, 192, 115, 116, 117, 193, 194, 195, 196, 197, 198, 199, 200, 201, 202, 203, 204, 205, 206, 36, 37, 38, 39, 81, 82, 83, 84, 30, 85, 29, 86, 32, 33, 35, 207, 208, 209, 210, 28, 211, 27, 212, 22, 23, 25, 213, 124, 125, 126, 127, 128, 129, 214, 215, 216, 217, 218, 219, 220, 221, 230, 231, 232, 233, 234, 259, 260, 235, 236, 237, 238, 248, 249, 250, 251, 239, 240, 241, 242, 243, 244, 245, 246] (by decide +kernel) (by decide +kernel)
set_option maxRecDepth 20000 in
theorem gL_isGoneSo_X6_pass : GoodIn wsL_isGoneSo (wsV RL 46 RX6 yX6_pass wsX6_pass) := goodIn_app (goodIn_of _ (by decide +kernel)) ggL_isGoneSo_X6_pass
set_option maxRecDepth 20000 in
theorem ggL_isGoneSo_X6_undo : GoodIn wsL_isGoneSo wsX6_undo := goodIn_r _ [225, 111, 6, 112, 226, 227, 228, 141, 229, 144, 143, 169, 170, 171, 24, 172, 31, 40, 78, 26, 173, 4, 174, 175, 100, 34, 101, 176, 177, 178, 179, 180, 181, 182, 94, 183, 160, 97, 96, 98, 184, 185, 186, 18, 187, 20, 164, 165, 166, 62, 122, 167, 168, 230, 231, 232, 233, 234, 259, 260, 235, 236, 237, 238, 248, 249, 250, 251, 239, 240, 241, 242, 243, 244, 245, 246] (by decide +kernel) (by decide +kernel)
set_option maxRecDepth 20000 in
theorem gL_isGoneSo_X6_undo : GoodIn wsL_isGoneSo (wsV RL 63 RX6 yX6_undo wsX6_undo) := goodIn_app (goodIn_of _ (by decide +kernel)) ggL_isGoneSo_X6_undo
theorem dL_isGoneSo_0 : decode cL_isGoneSo 0 = .ok (.aload_n 0, 1) := by decide +kernel
theorem dL_isGoneSo_1 : decode cL_isGoneSo 1 = .ok (.iload_n 1, 1) := by decide +kernel
theorem dL_isGoneSo_2 : decode cL_isGoneSo 2 = .ok (.iconst 4, 1) := by decide +kernel
theorem dL_isGoneSo_3 : decode cL_isGoneSo 3 = .ok (.invokevirtual 20, 3) := by decide +kernel
theorem dL_isGoneSo_6 : decode cL_isGoneSo 6 = .ok (.istore_n 2, 1) := by decide +kernel
theorem dL_isGoneSo_7 : decode cL_isGoneSo 7 = .ok (.aload_n 0, 1) := by decide +kernel
theorem dL_isGoneSo_8 : decode cL_isGoneSo 8 = .ok (.iload_n 1, 1) := by decide +kernel
theorem dL_isGoneSo_9 : decode cL_isGoneSo 9 = .ok (.invokevirtual 60, 3) := by decide +kernel
theorem dL_isGoneSo_12 : decode cL_isGoneSo 12 = .ok (.istore_n 3, 1) := by decide +kernel
theorem dL_isGoneSo_13 : decode cL_isGoneSo 13 = .ok (.iload_n 2, 1) := by decide +kernel
theorem dL_isGoneSo_14 : decode cL_isGoneSo 14 = .ok (.ifCond .gt 14, 3) := by decide +kernel
theorem dL_isGoneSo_17 : decode cL_isGoneSo 17 = .ok (.aload_n 0, 1) := by decide +kernel
theorem dL_isGoneSo_18 : decode cL_isGoneSo 18 = .ok (.iconst 0, 1) := by decide +kernel
theorem dL_isGoneSo_19 : decode cL_isGoneSo 19 = .ok (.invokevirtual 8, 3) := by decide +kernel
theorem dL_isGoneSo_22 : decode cL_isGoneSo 22 = .ok (.sipush 900, 3) := by decide +kernel
theorem dL_isGoneSo_25 : decode cL_isGoneSo 25 = .ok (.if_icmp .le 28, 3) := by decide +kernel
theorem dL_isGoneSo_28 : decode cL_isGoneSo 28 = .ok (.iload_n 2, 1) := by decide +kernel
theorem dL_isGoneSo_29 : decode cL_isGoneSo 29 = .ok (.ifCond .eq 18, 3) := by decide +kernel
theorem dL_isGoneSo_32 : decode cL_isGoneSo 32 = .ok (.iload_n 3, 1) := by decide +kernel
theorem dL_isGoneSo_33 : decode cL_isGoneSo 33 = .ok (.iload_n 2, 1) := by decide +kernel
theorem dL_isGoneSo_34 : decode cL_isGoneSo 34 = .ok (.iconst 1, 1) := by decide +kernel
theorem dL_isGoneSo_35 : decode cL_isGoneSo 35 = .ok (.if_icmp .ne 7, 3) := by decide +kernel
theorem dL_isGoneSo_38 : decode cL_isGoneSo 38 = .ok (.iconst 0, 1) := by decide +kernel
theorem dL_isGoneSo_39 : decode cL_isGoneSo 39 = .ok (.goto 5, 3) := by decide +kernel
theorem dL_isGoneSo_42 : decode cL_isGoneSo 42 = .ok (.bipush (-5), 2) := by decide +kernel
theorem dL_isGoneSo_44 : decode cL_isGoneSo 44 = .ok (.if_icmp .ne 7, 3) := by decide +kernel
theorem dL_isGoneSo_47 : decode cL_isGoneSo 47 = .ok (.iconst 1, 1) := by decide +kernel
theorem dL_isGoneSo_48 : decode cL_isGoneSo 48 = .ok (.goto 4, 3) := by decide +kernel
theorem dL_isGoneSo_51 : decode cL_isGoneSo 51 = .ok (.iconst 0, 1) := by decide +kernel
theorem dL_isGoneSo_52 : decode cL_isGoneSo 52 = .ok (.ireturn, 1) := by decide +kernel
theorem dL_isGoneSo_53 : decode cL_isGoneSo 53 = .ok (.iload_n 3, 1) := by decide +kernel
theorem dL_isGoneSo_54 : decode cL_isGoneSo 54 = .ok (.bipush (-6), 2) := by decide +kernel
theorem dL_isGoneSo_56 : decode cL_isGoneSo 56 = .ok (.if_icmp .eq 10, 3) := by decide +kernel
theorem dL_isGoneSo_59 : decode cL_isGoneSo 59 = .ok (.iload_n 3, 1) := by decide +kernel
theorem dL_isGoneSo_60 : decode cL_isGoneSo 60 = .ok (.sipush 240, 3) := by decide +kernel
theorem dL_isGoneSo_63 : decode cL_isGoneSo 63 = .ok (.if_icmp .le 9, 3) := by decide +kernel
theorem dL_isGoneSo_66 : decode cL_isGoneSo 66 = .ok (.sipush 240, 3) := by decide +kernel
theorem dL_isGoneSo_69 : decode cL_isGoneSo 69 = .ok (.goto 4, 3) := by decide +kernel
theorem dL_isGoneSo_72 : decode cL_isGoneSo 72 = .ok (.iload_n 3, 1) := by decide +kernel
theorem dL_isGoneSo_73 : decode cL_isGoneSo 73 = .ok (.istore 4, 2) := by decide +kernel
theorem dL_isGoneSo_75 : decode cL_isGoneSo 75 = .ok (.iload 4, 2) := by decide +kernel
theorem dL_isGoneSo_77 : decode cL_isGoneSo 77 = .ok (.iconst 1, 1) := by decide +kernel
theorem dL_isGoneSo_78 : decode cL_isGoneSo 78 = .ok (.if_icmp .le 14, 3) := by decide +kernel
theorem dL_isGoneSo_81 : decode cL_isGoneSo 81 = .ok (.aload_n 0, 1) := by decide +kernel
theorem dL_isGoneSo_82 : decode cL_isGoneSo 82 = .ok (.iload 4, 2) := by decide +kernel
theorem dL_isGoneSo_84 : decode cL_isGoneSo 84 = .ok (.iconst 1, 1) := by decide +kernel
theorem dL_isGoneSo_85 : decode cL_isGoneSo 85 = .ok (.isub, 1) := by decide +kernel
theorem dL_isGoneSo_86 : decode cL_isGoneSo 86 = .ok (.invokevirtual 46, 3) := by decide +kernel
theorem dL_isGoneSo_89 : decode cL_isGoneSo 89 = .ok (.goto 4, 3) := by decide +kernel
theorem dL_isGoneSo_92 : decode cL_isGoneSo 92 = .ok (.iconst 0, 1) := by decide +kernel
theorem dL_isGoneSo_93 : decode cL_isGoneSo 93 = .ok (.istore 5, 2) := by decide +kernel
theorem dL_isGoneSo_95 : decode cL_isGoneSo 95 = .ok (.aload_n 0, 1) := by decide +kernel
theorem dL_isGoneSo_96 : decode cL_isGoneSo 96 = .ok (.iload_n 1, 1) := by decide +kernel
theorem dL_isGoneSo_97 : decode cL_isGoneSo 97 = .ok (.iconst 4, 1) := by decide +kernel
theorem dL_isGoneSo_98 : decode cL_isGoneSo 98 = .ok (.invokevirtual 20, 3) := by decide +kernel
theorem dL_isGoneSo_101 : decode cL_isGoneSo 101 = .ok (.ifCond .ne 7, 3) := by decide +kernel
theorem dL_isGoneSo_104 : decode cL_isGoneSo 104 = .ok (.iconst 1, 1) := by decide +kernel
theorem dL_isGoneSo_105 : decode cL_isGoneSo 105 = .ok (.goto 4, 3) := by decide +kernel
theorem dL_isGoneSo_108 : decode cL_isGoneSo 108 = .ok (.iconst 0, 1) := by decide +kernel
theorem dL_isGoneSo_109 : decode cL_isGoneSo 109 = .ok (.istore 6, 2) := by decide +kernel
theorem dL_isGoneSo_111 : decode cL_isGoneSo 111 = .ok (.aload_n 0, 1) := by decide +kernel
theorem dL_isGoneSo_112 : decode cL_isGoneSo 112 = .ok (.iconst 1, 1) := by decide +kernel
theorem dL_isGoneSo_113 : decode cL_isGoneSo 113 = .ok (.invokevirtual 46, 3) := by decide +kernel
theorem dL_isGoneSo_116 : decode cL_isGoneSo 116 = .ok (.istore 7, 2) := by decide +kernel
theorem dL_isGoneSo_118 : decode cL_isGoneSo 118 = .ok (.iload 6, 2) := by decide +kernel
theorem dL_isGoneSo_120 : decode cL_isGoneSo 120 = .ok (.ifCond .eq 62, 3) := by decide +kernel
theorem dL_isGoneSo_123 : decode cL_isGoneSo 123 = .ok (.aload_n 0, 1) := by decide +kernel
theorem dL_isGoneSo_124 : decode cL_isGoneSo 124 = .ok (.iload_n 1, 1) := by decide +kernel
theorem dL_isGoneSo_125 : decode cL_isGoneSo 125 = .ok (.iconst 4, 1) := by decide +kernel
theorem dL_isGoneSo_126 : decode cL_isGoneSo 126 = .ok (.invokevirtual 20, 3) := by decide +kernel
theorem dL_isGoneSo_129 : decode cL_isGoneSo 129 = .ok (.iconst 1, 1) := by decide +kernel
theorem dL_isGoneSo_130 : decode cL_isGoneSo 130 = .ok (.if_icmp .ne 7, 3) := by decide +kernel
theorem dL_isGoneSo_133 : decode cL_isGoneSo 133 = .ok (.iconst 1, 1) := by decide +kernel
theorem dL_isGoneSo_134 : decode cL_isGoneSo 134 = .ok (.goto 4, 3) := by decide +kernel
theorem dL_isGoneSo_137 : decode cL_isGoneSo 137 = .ok (.iconst 0, 1) := by decide +kernel
theorem dL_isGoneSo_138 : decode cL_isGoneSo 138 = .ok (.iload 4, 2) := by decide +kernel
theorem dL_isGoneSo_140 : decode cL_isGoneSo 140 = .ok (.iload_n 3, 1) := by decide +kernel
theorem dL_isGoneSo_141 : decode cL_isGoneSo 141 = .ok (.if_icmp .ne 7, 3) := by decide +kernel
theorem dL_isGoneSo_144 : decode cL_isGoneSo 144 = .ok (.iconst 1, 1) := by decide +kernel
theorem dL_isGoneSo_145 : decode cL_isGoneSo 145 = .ok (.goto 4, 3) := by decide +kernel
theorem dL_isGoneSo_148 : decode cL_isGoneSo 148 = .ok (.iconst 0, 1) := by decide +kernel
theorem dL_isGoneSo_149 : decode cL_isGoneSo 149 = .ok (.if_icmp .ne 33, 3) := by decide +kernel
theorem dL_isGoneSo_152 : decode cL_isGoneSo 152 = .ok (.iload 4, 2) := by decide +kernel
theorem dL_isGoneSo_154 : decode cL_isGoneSo 154 = .ok (.iload_n 3, 1) := by decide +kernel
theorem dL_isGoneSo_155 : decode cL_isGoneSo 155 = .ok (.if_icmp .ne 23, 3) := by decide +kernel
theorem dL_isGoneSo_158 : decode cL_isGoneSo 158 = .ok (.iload 7, 2) := by decide +kernel
theorem dL_isGoneSo_160 : decode cL_isGoneSo 160 = .ok (.ifCond .le 22, 3) := by decide +kernel
theorem dL_isGoneSo_163 : decode cL_isGoneSo 163 = .ok (.aload_n 0, 1) := by decide +kernel
theorem dL_isGoneSo_164 : decode cL_isGoneSo 164 = .ok (.iload_n 1, 1) := by decide +kernel
theorem dL_isGoneSo_165 : decode cL_isGoneSo 165 = .ok (.iconst 2, 1) := by decide +kernel
theorem dL_isGoneSo_166 : decode cL_isGoneSo 166 = .ok (.invokevirtual 20, 3) := by decide +kernel
theorem dL_isGoneSo_169 : decode cL_isGoneSo 169 = .ok (.aload_n 0, 1) := by decide +kernel
theorem dL_isGoneSo_170 : decode cL_isGoneSo 170 = .ok (.bipush 8, 2) := by decide +kernel
theorem dL_isGoneSo_172 : decode cL_isGoneSo 172 = .ok (.invokevirtual 8, 3) := by decide +kernel
theorem dL_isGoneSo_175 : decode cL_isGoneSo 175 = .ok (.if_icmp .gt 7, 3) := by decide +kernel
theorem dL_isGoneSo_178 : decode cL_isGoneSo 178 = .ok (.iconst 1, 1) := by decide +kernel
theorem dL_isGoneSo_179 : decode cL_isGoneSo 179 = .ok (.goto 4, 3) := by decide +kernel
theorem dL_isGoneSo_182 : decode cL_isGoneSo 182 = .ok (.iconst 0, 1) := by decide +kernel
theorem dL_isGoneSo_183 : decode cL_isGoneSo 183 = .ok (.istore 6, 2) := by decide +kernel
theorem dL_isGoneSo_185 : decode cL_isGoneSo 185 = .ok (.aload_n 0, 1) := by decide +kernel
theorem dL_isGoneSo_186 : decode cL_isGoneSo 186 = .ok (.invokevirtual 63, 3) := by decide +kernel
theorem dL_isGoneSo_189 : decode cL_isGoneSo 189 = .ok (.istore 8, 2) := by decide +kernel
theorem dL_isGoneSo_191 : decode cL_isGoneSo 191 = .ok (.iload 4, 2) := by decide +kernel
theorem dL_isGoneSo_193 : decode cL_isGoneSo 193 = .ok (.iconst 1, 1) := by decide +kernel
theorem dL_isGoneSo_194 : decode cL_isGoneSo 194 = .ok (.if_icmp .le 10, 3) := by decide +kernel
theorem dL_isGoneSo_197 : decode cL_isGoneSo 197 = .ok (.aload_n 0, 1) := by decide +kernel
theorem dL_isGoneSo_198 : decode cL_isGoneSo 198 = .ok (.invokevirtual 63, 3) := by decide +kernel
theorem dL_isGoneSo_201 : decode cL_isGoneSo 201 = .ok (.goto 5, 3) := by decide +kernel
theorem dL_isGoneSo_204 : decode cL_isGoneSo 204 = .ok (.iload 8, 2) := by decide +kernel
theorem dL_isGoneSo_206 : decode cL_isGoneSo 206 = .ok (.istore 8, 2) := by decide +kernel
theorem dL_isGoneSo_208 : decode cL_isGoneSo 208 = .ok (.iload 6, 2) := by decide +kernel
theorem dL_isGoneSo_210 : decode cL_isGoneSo 210 = .ok (.ifCond .eq 26, 3) := by decide +kernel
theorem dL_isGoneSo_213 : decode cL_isGoneSo 213 = .ok (.iload 8, 2) := by decide +kernel
theorem dL_isGoneSo_215 : decode cL_isGoneSo 215 = .ok (.ifCond .lt 21, 3) := by decide +kernel
theorem dL_isGoneSo_218 : decode cL_isGoneSo 218 = .ok (.iload 5, 2) := by decide +kernel
theorem dL_isGoneSo_220 : decode cL_isGoneSo 220 = .ok (.ifCond .lt 16, 3) := by decide +kernel
theorem dL_isGoneSo_223 : decode cL_isGoneSo 223 = .ok (.aload_n 0, 1) := by decide +kernel
theorem dL_isGoneSo_224 : decode cL_isGoneSo 224 = .ok (.iload_n 1, 1) := by decide +kernel
theorem dL_isGoneSo_225 : decode cL_isGoneSo 225 = .ok (.iconst 4, 1) := by decide +kernel
theorem dL_isGoneSo_226 : decode cL_isGoneSo 226 = .ok (.invokevirtual 20, 3) := by decide +kernel
theorem dL_isGoneSo_229 : decode cL_isGoneSo 229 = .ok (.ifCond .ne 7, 3) := by decide +kernel
theorem dL_isGoneSo_232 : decode cL_isGoneSo 232 = .ok (.iconst 1, 1) := by decide +kernel
theorem dL_isGoneSo_233 : decode cL_isGoneSo 233 = .ok (.goto 4, 3) := by decide +kernel
theorem dL_isGoneSo_236 : decode cL_isGoneSo 236 = .ok (.iconst 0, 1) := by decide +kernel
theorem dL_isGoneSo_237 : decode cL_isGoneSo 237 = .ok (.ireturn, 1) := by decide +kernel
set_option maxRecDepth 20000 in
theorem ggL_isPostSo_X6_bestPost : GoodIn wsL_isPostSo wsX6_bestPost := goodIn_r _ [5, 6, 7, 8, 9, 10, 11, 12, 13, 14, 15, 16, 17, 18, 19, 20, 21, 22, 23, 24, 25, 26, 4, 27, 28, 29, 30, 31, 32, 33, 34, 35, 36, 37, 38, 39, 40, 41, 42, 43, 44, 45, 46, 47, 48, 49, 50, 51, 52, 200, 201, 202, 203, 204, 205, 206, 207, 208, 209, 210, 211, 212, 213, 214, 215, 216, 217, 218, 219, 220] (by decide +kernel) (by decide +kernel)
set_option maxRecDepth 20000 in
theorem gL_isPostSo_X6_bestPost : GoodIn wsL_isPostSo (wsV RL 66 RX6 yX6_bestPost wsX6_bestPost) := goodIn_app (goodIn_of _ (by decide +kernel)) ggL_isPostSo_X6_bestPost
set_option maxRecDepth 20000 in
theorem ggL_isPostSo_X6_count : GoodIn wsL_isPostSo wsX6_count := goodIn_r _ [56, 6, 57, 58, 59, 60, 61, 62, 63, 64, 65, 66, 67, 10, 68, 20, 69, 70, 71, 72, 73, 74, 75, 76, 77, 78, 79, 80, 81, 82, 83, 84, 85, 86, 87, 88, 89, 44, 90, 47, 200, 201, 202, 203, 204, 205, 206, 207, 208, 209, 210, 211, 212, 213, 214, 215, 216, 221, 222, 223, 224, 225, 226, 227, 228, 229, 217, 218, 219, 220] (by decide +kernel) (by decide +kernel)
set_option maxRecDepth 20000 in
theorem gL_isPostSo_X6_count : GoodIn wsL_isPostSo (wsV RL 8 RX6 yX6_count wsX6_count) := goodIn_app (goodIn_of _ (by decide +kernel)) ggL_isPostSo_X6_count
set_option maxRecDepth 20000 in
theorem ggL_isPostSo_X6_set : GoodIn wsL_isPostSo wsX6_set := goodIn_r _ [94, 63, 6, 95, 96, 97, 98, 99, 100, 101, 102, 103, 10, 104, 105, 106, 107, 108, 109, 33, 110, 111, 44, 25, 112, 113, 76, 12, 114, 115, 116, 117, 47, 46, 48, 118, 119, 120, 121, 122, 123, 124, 79, 125, 126, 127, 128, 129, 130, 20, 131, 4, 132, 133, 50, 23, 51, 134, 135, 136, 137, 138, 139, 140, 141, 142, 143, 144, 145, 78, 146, 147, 148, 149, 150, 151, 152, 153, 154, 155, 156, 157, 200, 201, 202, 203, 204, 228, 229, 205, 206, 207, 208, 217, 218, 219, 220, 209, 210, 211, 212, 213, 214, 215, 216] (by decide +kernel) (by decide +kernel)
set_option maxRecDepth 20000 in
theorem gL_isPostSo_X6_set : GoodIn wsL_isPostSo (wsV RL 43 RX6 yX6_set wsX6_set) := goodIn_app (goodIn_of _ (by decide +kernel)) ggL_isPostSo_X6_set
set_option maxRecDepth 20000 in
theorem ggL_isPostSo_X6_pass : GoodIn wsL_isPostSo wsX6_pass := goodIn_r _ [161, 63, 6, 95, 96, 97, 98, 99, 100, 101, 102, 103, 10, 104, 105, 106, 107, 108, 109, 33, 110, 111, 44, 25, 112, 113, 76, 12, 114, 115, 116, 117, 47, 46, 48, 118, 119, 120, 121, 122, 123, 124, 79, 125, 126, 127, 128, 129, 130, 20, 131, 4, 132, 133, 50, 23, 51, 134, 135, 136, 137, 138, 139, 140, 141, 142, 143, 144, 145, 78, 162, 163, 164, 165, 166, 70, 71, 72, 167, 168, 169, 170, 171, 172, 173, 174, 13, 175, 176, 177, 178, 179, 180, 66, 67, 68, 28, 29, 30, 31, 32, 34, 35, 36, 21, 22, 24, 181, 182, 183, 184, 185, 186, 14, 187, 188, 189, 190, 191, 81, 82, 83, 84, 85, 86, 150, 151, 152, 153, 154, 155, 156, 157, 200, 201, 202, 203, 204, 228, 229, 205, 206, 207, 208, 217, 218, 219, 220, 209, 210, 211, 212, 213, 214, 215, 216] (by decide +kernel) (by decide +kernel)
set_option maxRecDepth 20000 in
theorem gL_isPostSo_X6_pass : GoodIn wsL_isPostSo (wsV RL 46 RX6 yX6_pass wsX6_pass) := goodIn_app (goodIn_of _ (by decide +kernel)) ggL_isPostSo_X6_pass
set_option maxRecDepth 20000 in
theorem ggL_isPostSo_X6_undo : GoodIn wsL_isPostSo wsX6_undo := goodIn_r _ [195, 63, 6, 64, 196, 197, 198, 98, 199, 101, 100, 127, 128, 129, 10, 130, 33, 20, 25, 12, 131, 4, 132, 133, 50, 23, 51, 134, 135, 136, 137, 138, 139, 140, 44, 141, 117, 47, 46, 48, 142, 143, 144, 76, 145, 78, 121, 122, 123, 124, 79, 125, 126, 200, 201, 202, 203, 204, 228, 229, 205, 206, 207, 208, 217, 218, 219, 220, 209, 210, 211, 212, 213, 214, 215, 216] (by decide +kernel) (by decide +kernel)
set_option maxRecDepth 20000 in
theorem gL_isPostSo_X6_undo : GoodIn wsL_isPostSo (wsV RL 63 RX6 yX6_undo wsX6_undo) := goodIn_app (goodIn_of _ (by decide +kernel)) ggL_isPostSo_X6_undo
theorem dL_isPostSo_0 : decode cL_isPostSo 0 = .ok (.aload_n 0, 1) := by decide +kernel
theorem dL_isPostSo_1 : decode cL_isPostSo 1 = .ok (.iload_n 1, 1) := by decide +kernel
theorem dL_isPostSo_2 : decode cL_isPostSo 2 = .ok (.iconst 0, 1) := by decide +kernel
theorem dL_isPostSo_3 : decode cL_isPostSo 3 = .ok (.invokevirtual 66, 3) := by decide +kernel
theorem dL_isPostSo_6 : decode cL_isPostSo 6 = .ok (.istore_n 3, 1) := by decide +kernel
theorem dL_isPostSo_7 : decode cL_isPostSo 7 = .ok (.aload_n 0, 1) := by decide +kernel
theorem dL_isPostSo_8 : decode cL_isPostSo 8 = .ok (.iload_n 1, 1) := by decide +kernel
theorem dL_isPostSo_9 : decode cL_isPostSo 9 = .ok (.iconst 1, 1) := by decide +kernel
theorem dL_isPostSo_10 : decode cL_isPostSo 10 = .ok (.invokevirtual 66, 3) := by decide +kernel
theorem dL_isPostSo_13 : decode cL_isPostSo 13 = .ok (.istore 4, 2) := by decide +kernel
theorem dL_isPostSo_15 : decode cL_isPostSo 15 = .ok (.aload_n 0, 1) := by decide +kernel
theorem dL_isPostSo_16 : decode cL_isPostSo 16 = .ok (.iconst 0, 1) := by decide +kernel
theorem dL_isPostSo_17 : decode cL_isPostSo 17 = .ok (.invokevirtual 8, 3) := by decide +kernel
theorem dL_isPostSo_20 : decode cL_isPostSo 20 = .ok (.sipush 900, 3) := by decide +kernel
theorem dL_isPostSo_23 : decode cL_isPostSo 23 = .ok (.if_icmp .le 13, 3) := by decide +kernel
theorem dL_isPostSo_26 : decode cL_isPostSo 26 = .ok (.iload_n 3, 1) := by decide +kernel
theorem dL_isPostSo_27 : decode cL_isPostSo 27 = .ok (.ifCond .lt 7, 3) := by decide +kernel
theorem dL_isPostSo_30 : decode cL_isPostSo 30 = .ok (.iconst 1, 1) := by decide +kernel
theorem dL_isPostSo_31 : decode cL_isPostSo 31 = .ok (.goto 4, 3) := by decide +kernel
theorem dL_isPostSo_34 : decode cL_isPostSo 34 = .ok (.iconst 0, 1) := by decide +kernel
theorem dL_isPostSo_35 : decode cL_isPostSo 35 = .ok (.ireturn, 1) := by decide +kernel
theorem dL_isPostSo_36 : decode cL_isPostSo 36 = .ok (.aload_n 0, 1) := by decide +kernel
theorem dL_isPostSo_37 : decode cL_isPostSo 37 = .ok (.iconst 0, 1) := by decide +kernel
theorem dL_isPostSo_38 : decode cL_isPostSo 38 = .ok (.iload_n 3, 1) := by decide +kernel
theorem dL_isPostSo_39 : decode cL_isPostSo 39 = .ok (.invokevirtual 43, 3) := by decide +kernel
theorem dL_isPostSo_42 : decode cL_isPostSo 42 = .ok (.istore 5, 2) := by decide +kernel
theorem dL_isPostSo_44 : decode cL_isPostSo 44 = .ok (.aload_n 0, 1) := by decide +kernel
theorem dL_isPostSo_45 : decode cL_isPostSo 45 = .ok (.bipush 24, 2) := by decide +kernel
theorem dL_isPostSo_47 : decode cL_isPostSo 47 = .ok (.iload_n 1, 1) := by decide +kernel
theorem dL_isPostSo_48 : decode cL_isPostSo 48 = .ok (.imul, 1) := by decide +kernel
theorem dL_isPostSo_49 : decode cL_isPostSo 49 = .ok (.invokevirtual 46, 3) := by decide +kernel
theorem dL_isPostSo_52 : decode cL_isPostSo 52 = .ok (.iload 4, 2) := by decide +kernel
theorem dL_isPostSo_54 : decode cL_isPostSo 54 = .ok (.if_icmp .ne 7, 3) := by decide +kernel
theorem dL_isPostSo_57 : decode cL_isPostSo 57 = .ok (.iconst 1, 1) := by decide +kernel
theorem dL_isPostSo_58 : decode cL_isPostSo 58 = .ok (.goto 4, 3) := by decide +kernel
theorem dL_isPostSo_61 : decode cL_isPostSo 61 = .ok (.iconst 0, 1) := by decide +kernel
theorem dL_isPostSo_62 : decode cL_isPostSo 62 = .ok (.istore 6, 2) := by decide +kernel
theorem dL_isPostSo_64 : decode cL_isPostSo 64 = .ok (.aload_n 0, 1) := by decide +kernel
theorem dL_isPostSo_65 : decode cL_isPostSo 65 = .ok (.invokevirtual 63, 3) := by decide +kernel
theorem dL_isPostSo_68 : decode cL_isPostSo 68 = .ok (.istore 7, 2) := by decide +kernel
theorem dL_isPostSo_70 : decode cL_isPostSo 70 = .ok (.aload_n 0, 1) := by decide +kernel
theorem dL_isPostSo_71 : decode cL_isPostSo 71 = .ok (.invokevirtual 63, 3) := by decide +kernel
theorem dL_isPostSo_74 : decode cL_isPostSo 74 = .ok (.istore 7, 2) := by decide +kernel
theorem dL_isPostSo_76 : decode cL_isPostSo 76 = .ok (.aload_n 0, 1) := by decide +kernel
theorem dL_isPostSo_77 : decode cL_isPostSo 77 = .ok (.iconst 0, 1) := by decide +kernel
theorem dL_isPostSo_78 : decode cL_isPostSo 78 = .ok (.iload_n 2, 1) := by decide +kernel
theorem dL_isPostSo_79 : decode cL_isPostSo 79 = .ok (.invokevirtual 43, 3) := by decide +kernel
theorem dL_isPostSo_82 : decode cL_isPostSo 82 = .ok (.istore 5, 2) := by decide +kernel
theorem dL_isPostSo_84 : decode cL_isPostSo 84 = .ok (.aload_n 0, 1) := by decide +kernel
theorem dL_isPostSo_85 : decode cL_isPostSo 85 = .ok (.bipush 24, 2) := by decide +kernel
theorem dL_isPostSo_87 : decode cL_isPostSo 87 = .ok (.iload_n 1, 1) := by decide +kernel
theorem dL_isPostSo_88 : decode cL_isPostSo 88 = .ok (.imul, 1) := by decide +kernel
theorem dL_isPostSo_89 : decode cL_isPostSo 89 = .ok (.invokevirtual 46, 3) := by decide +kernel
theorem dL_isPostSo_92 : decode cL_isPostSo 92 = .ok (.istore 8, 2) := by decide +kernel
theorem dL_isPostSo_94 : decode cL_isPostSo 94 = .ok (.aload_n 0, 1) := by decide +kernel
theorem dL_isPostSo_95 : decode cL_isPostSo 95 = .ok (.invokevirtual 63, 3) := by decide +kernel
theorem dL_isPostSo_98 : decode cL_isPostSo 98 = .ok (.istore 7, 2) := by decide +kernel
theorem dL_isPostSo_100 : decode cL_isPostSo 100 = .ok (.aload_n 0, 1) := by decide +kernel
theorem dL_isPostSo_101 : decode cL_isPostSo 101 = .ok (.invokevirtual 63, 3) := by decide +kernel
theorem dL_isPostSo_104 : decode cL_isPostSo 104 = .ok (.istore 7, 2) := by decide +kernel
theorem dL_isPostSo_106 : decode cL_isPostSo 106 = .ok (.iload 6, 2) := by decide +kernel
theorem dL_isPostSo_108 : decode cL_isPostSo 108 = .ok (.ifCond .eq 36, 3) := by decide +kernel
theorem dL_isPostSo_111 : decode cL_isPostSo 111 = .ok (.iload 8, 2) := by decide +kernel
theorem dL_isPostSo_113 : decode cL_isPostSo 113 = .ok (.iload 4, 2) := by decide +kernel
theorem dL_isPostSo_115 : decode cL_isPostSo 115 = .ok (.if_icmp .lt 15, 3) := by decide +kernel
theorem dL_isPostSo_118 : decode cL_isPostSo 118 = .ok (.iload 8, 2) := by decide +kernel
theorem dL_isPostSo_120 : decode cL_isPostSo 120 = .ok (.iload 4, 2) := by decide +kernel
theorem dL_isPostSo_122 : decode cL_isPostSo 122 = .ok (.if_icmp .ne 22, 3) := by decide +kernel
theorem dL_isPostSo_125 : decode cL_isPostSo 125 = .ok (.iload_n 2, 1) := by decide +kernel
theorem dL_isPostSo_126 : decode cL_isPostSo 126 = .ok (.iload_n 3, 1) := by decide +kernel
theorem dL_isPostSo_127 : decode cL_isPostSo 127 = .ok (.if_icmp .lt 17, 3) := by decide +kernel
theorem dL_isPostSo_130 : decode cL_isPostSo 130 = .ok (.iload 7, 2) := by decide +kernel
theorem dL_isPostSo_132 : decode cL_isPostSo 132 = .ok (.ifCond .lt 12, 3) := by decide +kernel
theorem dL_isPostSo_135 : decode cL_isPostSo 135 = .ok (.iload 5, 2) := by decide +kernel
theorem dL_isPostSo_137 : decode cL_isPostSo 137 = .ok (.ifCond .lt 7, 3) := by decide +kernel
theorem dL_isPostSo_140 : decode cL_isPostSo 140 = .ok (.iconst 1, 1) := by decide +kernel
theorem dL_isPostSo_141 : decode cL_isPostSo 141 = .ok (.goto 4, 3) := by decide +kernel
theorem dL_isPostSo_144 : decode cL_isPostSo 144 = .ok (.iconst 0, 1) := by decide +kernel
theorem dL_isPostSo_145 : decode cL_isPostSo 145 = .ok (.ireturn, 1) := by decide +kernel
set_option maxRecDepth 20000 in
theorem ggL_isRegretSo_X6_ifSent : GoodIn wsL_isRegretSo wsX6_ifSent := goodIn_r _ [5, 6, 7, 8, 9, 10, 11, 12, 13, 14, 15, 16, 17, 18, 19, 20, 21, 22, 23, 24, 25, 26, 27, 28, 29, 30, 31, 32, 33, 34, 35, 36, 37, 38, 39, 40, 41, 42, 43, 44, 45, 46, 47, 48, 49, 50, 51, 118, 119, 120, 121, 122, 123, 124, 125, 126, 127, 128, 129, 130, 131, 132, 133, 134, 135] (by decide +kernel) (by decide +kernel)
set_option maxRecDepth 20000 in
theorem gL_isRegretSo_X6_ifSent : GoodIn wsL_isRegretSo (wsV RL 69 RX6 yX6_ifSent wsX6_ifSent) := goodIn_app (goodIn_of _ (by decide +kernel)) ggL_isRegretSo_X6_ifSent
set_option maxRecDepth 20000 in
theorem ggL_isRegretSo_X6_mostRegretted : GoodIn wsL_isRegretSo wsX6_mostRegretted := goodIn_r _ [55, 9, 6, 56, 57, 58, 19, 59, 26, 27, 28, 21, 22, 23, 24, 25, 29, 30, 31, 32, 33, 34, 35, 36, 37, 38, 39, 40, 41, 42, 43, 44, 45, 46, 47, 48, 49, 50, 51, 11, 12, 13, 14, 15, 118, 119, 120, 121, 122, 123, 124, 125, 126, 127, 128, 129, 130, 131, 132, 133, 134, 135] (by decide +kernel) (by decide +kernel)
set_option maxRecDepth 20000 in
theorem gL_isRegretSo_X6_mostRegretted : GoodIn wsL_isRegretSo (wsV RL 72 RX6 yX6_mostRegretted wsX6_mostRegretted) := goodIn_app (goodIn_of _ (by decide +kernel)) ggL_isRegretSo_X6_mostRegretted
set_option maxRecDepth 20000 in
theorem ggL_isRegretSo_X6_count : GoodIn wsL_isRegretSo wsX6_count := goodIn_r _ [63, 6, 7, 64, 65, 66, 67, 68, 69, 70, 71, 47, 48, 37, 49, 50, 72, 73, 74, 75, 76, 77, 78, 13, 79, 15, 80, 81, 82, 83, 84, 85, 86, 87, 88, 89, 90, 91, 92, 93, 118, 119, 120, 121, 122, 123, 124, 125, 126, 127, 128, 129, 130, 131, 132, 133, 134, 136, 137, 138, 139, 140, 141, 142, 143, 144, 145, 146, 147, 148] (by decide +kernel) (by decide +kernel)
set_option maxRecDepth 20000 in
theorem gL_isRegretSo_X6_count : GoodIn wsL_isRegretSo (wsV RL 8 RX6 yX6_count wsX6_count) := goodIn_app (goodIn_of _ (by decide +kernel)) ggL_isRegretSo_X6_count
set_option maxRecDepth 20000 in
theorem ggL_isRegretSo_X6_ofLetter : GoodIn wsL_isRegretSo wsX6_ofLetter := goodIn_r _ [97, 6, 7, 98, 99, 100, 8, 101, 102, 9, 10, 11, 12, 13, 14, 15, 103, 35, 36, 37, 38, 39, 40, 41, 42, 43, 44, 45, 31, 32, 33, 46, 47, 48, 49, 50, 104, 105, 106, 19, 107, 21, 22, 23, 24, 25, 26, 27, 28, 29, 30, 34, 51, 108, 109, 110, 111, 112, 113, 114, 115, 116, 117, 118, 119, 120, 121, 122, 123, 124, 125, 126, 127, 128, 129, 130, 131, 132, 133, 134, 135] (by decide +kernel) (by decide +kernel)
set_option maxRecDepth 20000 in
theorem gL_isRegretSo_X6_ofLetter : GoodIn wsL_isRegretSo (wsV RL 20 RX6 yX6_ofLetter wsX6_ofLetter) := goodIn_app (goodIn_of _ (by decide +kernel)) ggL_isRegretSo_X6_ofLetter
theorem dL_isRegretSo_0 : decode cL_isRegretSo 0 = .ok (.aload_n 0, 1) := by decide +kernel
theorem dL_isRegretSo_1 : decode cL_isRegretSo 1 = .ok (.iload_n 1, 1) := by decide +kernel
theorem dL_isRegretSo_2 : decode cL_isRegretSo 2 = .ok (.iload_n 2, 1) := by decide +kernel
theorem dL_isRegretSo_3 : decode cL_isRegretSo 3 = .ok (.invokevirtual 69, 3) := by decide +kernel
theorem dL_isRegretSo_6 : decode cL_isRegretSo 6 = .ok (.istore_n 3, 1) := by decide +kernel
theorem dL_isRegretSo_7 : decode cL_isRegretSo 7 = .ok (.aload_n 0, 1) := by decide +kernel
theorem dL_isRegretSo_8 : decode cL_isRegretSo 8 = .ok (.invokevirtual 72, 3) := by decide +kernel
theorem dL_isRegretSo_11 : decode cL_isRegretSo 11 = .ok (.istore 4, 2) := by decide +kernel
theorem dL_isRegretSo_13 : decode cL_isRegretSo 13 = .ok (.iload 4, 2) := by decide +kernel
theorem dL_isRegretSo_15 : decode cL_isRegretSo 15 = .ok (.bipush (-6), 2) := by decide +kernel
theorem dL_isRegretSo_17 : decode cL_isRegretSo 17 = .ok (.if_icmp .ne 7, 3) := by decide +kernel
theorem dL_isRegretSo_20 : decode cL_isRegretSo 20 = .ok (.iconst 1, 1) := by decide +kernel
theorem dL_isRegretSo_21 : decode cL_isRegretSo 21 = .ok (.goto 4, 3) := by decide +kernel
theorem dL_isRegretSo_24 : decode cL_isRegretSo 24 = .ok (.iconst 0, 1) := by decide +kernel
theorem dL_isRegretSo_25 : decode cL_isRegretSo 25 = .ok (.aload_n 0, 1) := by decide +kernel
theorem dL_isRegretSo_26 : decode cL_isRegretSo 26 = .ok (.iconst 4, 1) := by decide +kernel
theorem dL_isRegretSo_27 : decode cL_isRegretSo 27 = .ok (.invokevirtual 8, 3) := by decide +kernel
theorem dL_isRegretSo_30 : decode cL_isRegretSo 30 = .ok (.ifCond .ne 7, 3) := by decide +kernel
theorem dL_isRegretSo_33 : decode cL_isRegretSo 33 = .ok (.iconst 1, 1) := by decide +kernel
theorem dL_isRegretSo_34 : decode cL_isRegretSo 34 = .ok (.goto 4, 3) := by decide +kernel
theorem dL_isRegretSo_37 : decode cL_isRegretSo 37 = .ok (.iconst 0, 1) := by decide +kernel
theorem dL_isRegretSo_38 : decode cL_isRegretSo 38 = .ok (.if_icmp .ne 7, 3) := by decide +kernel
theorem dL_isRegretSo_41 : decode cL_isRegretSo 41 = .ok (.iconst 1, 1) := by decide +kernel
theorem dL_isRegretSo_42 : decode cL_isRegretSo 42 = .ok (.goto 4, 3) := by decide +kernel
theorem dL_isRegretSo_45 : decode cL_isRegretSo 45 = .ok (.iconst 0, 1) := by decide +kernel
theorem dL_isRegretSo_46 : decode cL_isRegretSo 46 = .ok (.istore 5, 2) := by decide +kernel
theorem dL_isRegretSo_48 : decode cL_isRegretSo 48 = .ok (.iconst 0, 1) := by decide +kernel
theorem dL_isRegretSo_49 : decode cL_isRegretSo 49 = .ok (.istore 6, 2) := by decide +kernel
theorem dL_isRegretSo_51 : decode cL_isRegretSo 51 = .ok (.iload 6, 2) := by decide +kernel
theorem dL_isRegretSo_53 : decode cL_isRegretSo 53 = .ok (.aload_n 0, 1) := by decide +kernel
theorem dL_isRegretSo_54 : decode cL_isRegretSo 54 = .ok (.iconst 2, 1) := by decide +kernel
theorem dL_isRegretSo_55 : decode cL_isRegretSo 55 = .ok (.invokevirtual 8, 3) := by decide +kernel
theorem dL_isRegretSo_58 : decode cL_isRegretSo 58 = .ok (.if_icmp .ge 82, 3) := by decide +kernel
theorem dL_isRegretSo_61 : decode cL_isRegretSo 61 = .ok (.iload 4, 2) := by decide +kernel
theorem dL_isRegretSo_63 : decode cL_isRegretSo 63 = .ok (.ifCond .lt 77, 3) := by decide +kernel
theorem dL_isRegretSo_66 : decode cL_isRegretSo 66 = .ok (.iload 5, 2) := by decide +kernel
theorem dL_isRegretSo_68 : decode cL_isRegretSo 68 = .ok (.ifCond .eq 63, 3) := by decide +kernel
theorem dL_isRegretSo_71 : decode cL_isRegretSo 71 = .ok (.aload_n 0, 1) := by decide +kernel
theorem dL_isRegretSo_72 : decode cL_isRegretSo 72 = .ok (.iload 6, 2) := by decide +kernel
theorem dL_isRegretSo_74 : decode cL_isRegretSo 74 = .ok (.bipush 7, 2) := by decide +kernel
theorem dL_isRegretSo_76 : decode cL_isRegretSo 76 = .ok (.invokevirtual 20, 3) := by decide +kernel
theorem dL_isRegretSo_79 : decode cL_isRegretSo 79 = .ok (.aload_n 0, 1) := by decide +kernel
theorem dL_isRegretSo_80 : decode cL_isRegretSo 80 = .ok (.iload 4, 2) := by decide +kernel
theorem dL_isRegretSo_82 : decode cL_isRegretSo 82 = .ok (.bipush 7, 2) := by decide +kernel
theorem dL_isRegretSo_84 : decode cL_isRegretSo 84 = .ok (.invokevirtual 20, 3) := by decide +kernel
theorem dL_isRegretSo_87 : decode cL_isRegretSo 87 = .ok (.if_icmp .lt 40, 3) := by decide +kernel
theorem dL_isRegretSo_90 : decode cL_isRegretSo 90 = .ok (.aload_n 0, 1) := by decide +kernel
theorem dL_isRegretSo_91 : decode cL_isRegretSo 91 = .ok (.iload 6, 2) := by decide +kernel
theorem dL_isRegretSo_93 : decode cL_isRegretSo 93 = .ok (.bipush 7, 2) := by decide +kernel
theorem dL_isRegretSo_95 : decode cL_isRegretSo 95 = .ok (.invokevirtual 20, 3) := by decide +kernel
theorem dL_isRegretSo_98 : decode cL_isRegretSo 98 = .ok (.aload_n 0, 1) := by decide +kernel
theorem dL_isRegretSo_99 : decode cL_isRegretSo 99 = .ok (.iload 4, 2) := by decide +kernel
theorem dL_isRegretSo_101 : decode cL_isRegretSo 101 = .ok (.bipush 7, 2) := by decide +kernel
theorem dL_isRegretSo_103 : decode cL_isRegretSo 103 = .ok (.invokevirtual 20, 3) := by decide +kernel
theorem dL_isRegretSo_106 : decode cL_isRegretSo 106 = .ok (.if_icmp .ne 25, 3) := by decide +kernel
theorem dL_isRegretSo_109 : decode cL_isRegretSo 109 = .ok (.iload 6, 2) := by decide +kernel
theorem dL_isRegretSo_111 : decode cL_isRegretSo 111 = .ok (.iload 4, 2) := by decide +kernel
theorem dL_isRegretSo_113 : decode cL_isRegretSo 113 = .ok (.if_icmp .ge 14, 3) := by decide +kernel
theorem dL_isRegretSo_116 : decode cL_isRegretSo 116 = .ok (.aload_n 0, 1) := by decide +kernel
theorem dL_isRegretSo_117 : decode cL_isRegretSo 117 = .ok (.iload 6, 2) := by decide +kernel
theorem dL_isRegretSo_119 : decode cL_isRegretSo 119 = .ok (.iconst 4, 1) := by decide +kernel
theorem dL_isRegretSo_120 : decode cL_isRegretSo 120 = .ok (.invokevirtual 20, 3) := by decide +kernel
theorem dL_isRegretSo_123 : decode cL_isRegretSo 123 = .ok (.iconst 1, 1) := by decide +kernel
theorem dL_isRegretSo_124 : decode cL_isRegretSo 124 = .ok (.if_icmp .eq 7, 3) := by decide +kernel
theorem dL_isRegretSo_127 : decode cL_isRegretSo 127 = .ok (.iconst 1, 1) := by decide +kernel
theorem dL_isRegretSo_128 : decode cL_isRegretSo 128 = .ok (.goto 4, 3) := by decide +kernel
theorem dL_isRegretSo_131 : decode cL_isRegretSo 131 = .ok (.iconst 0, 1) := by decide +kernel
theorem dL_isRegretSo_132 : decode cL_isRegretSo 132 = .ok (.istore 5, 2) := by decide +kernel
theorem dL_isRegretSo_134 : decode cL_isRegretSo 134 = .ok (.iinc 6 1, 3) := by decide +kernel
theorem dL_isRegretSo_137 : decode cL_isRegretSo 137 = .ok (.goto (-86), 3) := by decide +kernel
theorem dL_isRegretSo_140 : decode cL_isRegretSo 140 = .ok (.aload_n 0, 1) := by decide +kernel
theorem dL_isRegretSo_141 : decode cL_isRegretSo 141 = .ok (.iload_n 1, 1) := by decide +kernel
theorem dL_isRegretSo_142 : decode cL_isRegretSo 142 = .ok (.iconst 4, 1) := by decide +kernel
theorem dL_isRegretSo_143 : decode cL_isRegretSo 143 = .ok (.invokevirtual 20, 3) := by decide +kernel
theorem dL_isRegretSo_146 : decode cL_isRegretSo 146 = .ok (.iconst 1, 1) := by decide +kernel
theorem dL_isRegretSo_147 : decode cL_isRegretSo 147 = .ok (.if_icmp .ne 12, 3) := by decide +kernel
theorem dL_isRegretSo_150 : decode cL_isRegretSo 150 = .ok (.aload_n 0, 1) := by decide +kernel
theorem dL_isRegretSo_151 : decode cL_isRegretSo 151 = .ok (.iload_n 2, 1) := by decide +kernel
theorem dL_isRegretSo_152 : decode cL_isRegretSo 152 = .ok (.iconst 4, 1) := by decide +kernel
theorem dL_isRegretSo_153 : decode cL_isRegretSo 153 = .ok (.invokevirtual 20, 3) := by decide +kernel
theorem dL_isRegretSo_156 : decode cL_isRegretSo 156 = .ok (.ifCond .eq 20, 3) := by decide +kernel
theorem dL_isRegretSo_159 : decode cL_isRegretSo 159 = .ok (.iload 5, 2) := by decide +kernel
theorem dL_isRegretSo_161 : decode cL_isRegretSo 161 = .ok (.ifCond .eq 13, 3) := by decide +kernel
theorem dL_isRegretSo_164 : decode cL_isRegretSo 164 = .ok (.iload_n 3, 1) := by decide +kernel
theorem dL_isRegretSo_165 : decode cL_isRegretSo 165 = .ok (.bipush (-5), 2) := by decide +kernel
theorem dL_isRegretSo_167 : decode cL_isRegretSo 167 = .ok (.if_icmp .ne 7, 3) := by decide +kernel
theorem dL_isRegretSo_170 : decode cL_isRegretSo 170 = .ok (.iconst 1, 1) := by decide +kernel
theorem dL_isRegretSo_171 : decode cL_isRegretSo 171 = .ok (.goto 4, 3) := by decide +kernel
theorem dL_isRegretSo_174 : decode cL_isRegretSo 174 = .ok (.iconst 0, 1) := by decide +kernel
theorem dL_isRegretSo_175 : decode cL_isRegretSo 175 = .ok (.ireturn, 1) := by decide +kernel
theorem dL_isRegretSo_176 : decode cL_isRegretSo 176 = .ok (.aload_n 0, 1) := by decide +kernel
theorem dL_isRegretSo_177 : decode cL_isRegretSo 177 = .ok (.iload_n 1, 1) := by decide +kernel
theorem dL_isRegretSo_178 : decode cL_isRegretSo 178 = .ok (.bipush 7, 2) := by decide +kernel
theorem dL_isRegretSo_180 : decode cL_isRegretSo 180 = .ok (.invokevirtual 20, 3) := by decide +kernel
theorem dL_isRegretSo_183 : decode cL_isRegretSo 183 = .ok (.istore 6, 2) := by decide +kernel
theorem dL_isRegretSo_185 : decode cL_isRegretSo 185 = .ok (.iload 5, 2) := by decide +kernel
theorem dL_isRegretSo_187 : decode cL_isRegretSo 187 = .ok (.ifCond .eq 43, 3) := by decide +kernel
theorem dL_isRegretSo_190 : decode cL_isRegretSo 190 = .ok (.iload_n 3, 1) := by decide +kernel
theorem dL_isRegretSo_191 : decode cL_isRegretSo 191 = .ok (.iload 6, 2) := by decide +kernel
theorem dL_isRegretSo_193 : decode cL_isRegretSo 193 = .ok (.if_icmp .lt 37, 3) := by decide +kernel
theorem dL_isRegretSo_196 : decode cL_isRegretSo 196 = .ok (.aload_n 0, 1) := by decide +kernel
theorem dL_isRegretSo_197 : decode cL_isRegretSo 197 = .ok (.iload_n 2, 1) := by decide +kernel
theorem dL_isRegretSo_198 : decode cL_isRegretSo 198 = .ok (.bipush 6, 2) := by decide +kernel
theorem dL_isRegretSo_200 : decode cL_isRegretSo 200 = .ok (.invokevirtual 20, 3) := by decide +kernel
theorem dL_isRegretSo_203 : decode cL_isRegretSo 203 = .ok (.iload_n 1, 1) := by decide +kernel
theorem dL_isRegretSo_204 : decode cL_isRegretSo 204 = .ok (.if_icmp .ne 22, 3) := by decide +kernel
theorem dL_isRegretSo_207 : decode cL_isRegretSo 207 = .ok (.iload_n 3, 1) := by decide +kernel
theorem dL_isRegretSo_208 : decode cL_isRegretSo 208 = .ok (.aload_n 0, 1) := by decide +kernel
theorem dL_isRegretSo_209 : decode cL_isRegretSo 209 = .ok (.iload_n 1, 1) := by decide +kernel
theorem dL_isRegretSo_210 : decode cL_isRegretSo 210 = .ok (.iconst 2, 1) := by decide +kernel
theorem dL_isRegretSo_211 : decode cL_isRegretSo 211 = .ok (.invokevirtual 20, 3) := by decide +kernel
theorem dL_isRegretSo_214 : decode cL_isRegretSo 214 = .ok (.aload_n 0, 1) := by decide +kernel
theorem dL_isRegretSo_215 : decode cL_isRegretSo 215 = .ok (.iload_n 2, 1) := by decide +kernel
theorem dL_isRegretSo_216 : decode cL_isRegretSo 216 = .ok (.iconst 2, 1) := by decide +kernel
theorem dL_isRegretSo_217 : decode cL_isRegretSo 217 = .ok (.invokevirtual 20, 3) := by decide +kernel
theorem dL_isRegretSo_220 : decode cL_isRegretSo 220 = .ok (.iconst 2, 1) := by decide +kernel
theorem dL_isRegretSo_221 : decode cL_isRegretSo 221 = .ok (.idiv, 1) := by decide +kernel
theorem dL_isRegretSo_222 : decode cL_isRegretSo 222 = .ok (.iadd, 1) := by decide +kernel
theorem dL_isRegretSo_223 : decode cL_isRegretSo 223 = .ok (.if_icmp .lt 7, 3) := by decide +kernel
theorem dL_isRegretSo_226 : decode cL_isRegretSo 226 = .ok (.iconst 1, 1) := by decide +kernel
theorem dL_isRegretSo_227 : decode cL_isRegretSo 227 = .ok (.goto 4, 3) := by decide +kernel
theorem dL_isRegretSo_230 : decode cL_isRegretSo 230 = .ok (.iconst 0, 1) := by decide +kernel
theorem dL_isRegretSo_231 : decode cL_isRegretSo 231 = .ok (.ireturn, 1) := by decide +kernel
