theorem kc0_0 : zt_code 0 0 = some (.new 7, 3, 7, 6, []) := rfl
theorem kc0_3 : zt_code 0 3 = some (.dup, 4, 0, 0, []) := rfl
theorem kc0_4 : zt_code 0 4 = some (.invokespecial 9, 7, 45, 0, []) := rfl
theorem kc0_7 : zt_code 0 7 = some (.astore_n 1, 8, 0, 0, []) := rfl
theorem kc0_8 : zt_code 0 8 = some (.new 10, 11, 8, 22, []) := rfl
theorem kc0_11 : zt_code 0 11 = some (.dup, 12, 0, 0, []) := rfl
theorem kc0_12 : zt_code 0 12 = some (.invokespecial 12, 15, 73, 0, []) := rfl
theorem kc0_15 : zt_code 0 15 = some (.astore_n 2, 16, 0, 0, []) := rfl
theorem kc0_16 : zt_code 0 16 = some (.iconst 0, 17, 0, 0, []) := rfl
theorem kc0_17 : zt_code 0 17 = some (.istore_n 3, 18, 0, 0, []) := rfl
theorem kc0_18 : zt_code 0 18 = some (.iload_n 3, 19, 0, 0, []) := rfl
theorem kc0_19 : zt_code 0 19 = some (.aload_n 0, 20, 0, 0, []) := rfl
theorem kc0_20 : zt_code 0 20 = some (.arraylength, 21, 0, 0, []) := rfl
theorem kc0_21 : zt_code 0 21 = some (.iconst 4, 22, 0, 0, []) := rfl
theorem kc0_22 : zt_code 0 22 = some (.isub, 23, 0, 0, []) := rfl
theorem kc0_23 : zt_code 0 23 = some (.if_icmp .gt 462, 26, 485, 0, []) := rfl
theorem kc0_26 : zt_code 0 26 = some (.aload_n 0, 27, 0, 0, []) := rfl
theorem kc0_27 : zt_code 0 27 = some (.iload_n 3, 28, 0, 0, []) := rfl
theorem kc0_28 : zt_code 0 28 = some (.iaload, 29, 0, 0, []) := rfl
theorem kc0_29 : zt_code 0 29 = some (.bipush 15, 31, 0, 0, []) := rfl
theorem kc0_31 : zt_code 0 31 = some (.iand, 32, 0, 0, []) := rfl
theorem kc0_32 : zt_code 0 32 = some (.tableswitch 447 0 14 #[76, 139, 172, 195, 218, 231, 244, 257, 270, 283, 322, 335, 358, 391, 424], 108, 479, 0, [(0, 108), (1, 171), (2, 204), (3, 227), (4, 250), (5, 263), (6, 276), (7, 289), (8, 302), (9, 315), (10, 354), (11, 367), (12, 390), (13, 423), (14, 456)]) := rfl
theorem kc0_108 : zt_code 0 108 = some (.aload_n 1, 109, 0, 0, []) := rfl
theorem kc0_109 : zt_code 0 109 = some (.aload_n 0, 110, 0, 0, []) := rfl
theorem kc0_110 : zt_code 0 110 = some (.iload_n 3, 111, 0, 0, []) := rfl
theorem kc0_111 : zt_code 0 111 = some (.iconst 1, 112, 0, 0, []) := rfl
theorem kc0_112 : zt_code 0 112 = some (.iadd, 113, 0, 0, []) := rfl
theorem kc0_113 : zt_code 0 113 = some (.iaload, 114, 0, 0, []) := rfl
theorem kc0_114 : zt_code 0 114 = some (.i2l, 115, 0, 0, []) := rfl
theorem kc0_115 : zt_code 0 115 = some (.bipush 32, 117, 0, 0, []) := rfl
theorem kc0_117 : zt_code 0 117 = some (.lshl, 118, 0, 0, []) := rfl
theorem kc0_118 : zt_code 0 118 = some (.aload_n 0, 119, 0, 0, []) := rfl
theorem kc0_119 : zt_code 0 119 = some (.iload_n 3, 120, 0, 0, []) := rfl
theorem kc0_120 : zt_code 0 120 = some (.iconst 2, 121, 0, 0, []) := rfl
theorem kc0_121 : zt_code 0 121 = some (.iadd, 122, 0, 0, []) := rfl
theorem kc0_122 : zt_code 0 122 = some (.iaload, 123, 0, 0, []) := rfl
theorem kc0_123 : zt_code 0 123 = some (.i2l, 124, 0, 0, []) := rfl
theorem kc0_124 : zt_code 0 124 = some (.ldc2_w 13, 127, 0, 0, [(4294967295, 0)]) := rfl
theorem kc0_127 : zt_code 0 127 = some (.land, 128, 0, 0, []) := rfl
theorem kc0_128 : zt_code 0 128 = some (.lor, 129, 0, 0, []) := rfl
theorem kc0_129 : zt_code 0 129 = some (.aload_n 0, 130, 0, 0, []) := rfl
theorem kc0_130 : zt_code 0 130 = some (.iload_n 3, 131, 0, 0, []) := rfl
theorem kc0_131 : zt_code 0 131 = some (.iconst 3, 132, 0, 0, []) := rfl
theorem kc0_132 : zt_code 0 132 = some (.iadd, 133, 0, 0, []) := rfl
theorem kc0_133 : zt_code 0 133 = some (.iaload, 134, 0, 0, []) := rfl
theorem kc0_134 : zt_code 0 134 = some (.invokevirtual 15, 137, 46, 2, []) := rfl
theorem kc0_137 : zt_code 0 137 = some (.aload_n 2, 138, 0, 0, []) := rfl
theorem kc0_138 : zt_code 0 138 = some (.aload_n 0, 139, 0, 0, []) := rfl
theorem kc0_139 : zt_code 0 139 = some (.iload_n 3, 140, 0, 0, []) := rfl
theorem kc0_140 : zt_code 0 140 = some (.iconst 1, 141, 0, 0, []) := rfl
theorem kc0_141 : zt_code 0 141 = some (.iadd, 142, 0, 0, []) := rfl
theorem kc0_142 : zt_code 0 142 = some (.iaload, 143, 0, 0, []) := rfl
theorem kc0_143 : zt_code 0 143 = some (.i2l, 144, 0, 0, []) := rfl
theorem kc0_144 : zt_code 0 144 = some (.bipush 32, 146, 0, 0, []) := rfl
theorem kc0_146 : zt_code 0 146 = some (.lshl, 147, 0, 0, []) := rfl
theorem kc0_147 : zt_code 0 147 = some (.aload_n 0, 148, 0, 0, []) := rfl
theorem kc0_148 : zt_code 0 148 = some (.iload_n 3, 149, 0, 0, []) := rfl
theorem kc0_149 : zt_code 0 149 = some (.iconst 2, 150, 0, 0, []) := rfl
theorem kc0_150 : zt_code 0 150 = some (.iadd, 151, 0, 0, []) := rfl
theorem kc0_151 : zt_code 0 151 = some (.iaload, 152, 0, 0, []) := rfl
theorem kc0_152 : zt_code 0 152 = some (.i2l, 153, 0, 0, []) := rfl
theorem kc0_153 : zt_code 0 153 = some (.ldc2_w 13, 156, 0, 0, [(4294967295, 0)]) := rfl
theorem kc0_156 : zt_code 0 156 = some (.land, 157, 0, 0, []) := rfl
theorem kc0_157 : zt_code 0 157 = some (.lor, 158, 0, 0, []) := rfl
theorem kc0_158 : zt_code 0 158 = some (.aload_n 0, 159, 0, 0, []) := rfl
theorem kc0_159 : zt_code 0 159 = some (.iload_n 3, 160, 0, 0, []) := rfl
theorem kc0_160 : zt_code 0 160 = some (.iconst 3, 161, 0, 0, []) := rfl
theorem kc0_161 : zt_code 0 161 = some (.iadd, 162, 0, 0, []) := rfl
theorem kc0_162 : zt_code 0 162 = some (.iaload, 163, 0, 0, []) := rfl
theorem kc0_163 : zt_code 0 163 = some (.invokevirtual 19, 166, 74, 2, []) := rfl
theorem kc0_166 : zt_code 0 166 = some (.if_icmp .eq 313, 169, 479, 0, []) := rfl
theorem kc0_169 : zt_code 0 169 = some (.iconst 0, 170, 0, 0, []) := rfl
theorem kc0_170 : zt_code 0 170 = some (.ireturn, 171, 0, 0, []) := rfl
theorem kc0_171 : zt_code 0 171 = some (.aload_n 1, 172, 0, 0, []) := rfl
theorem kc0_172 : zt_code 0 172 = some (.aload_n 0, 173, 0, 0, []) := rfl
theorem kc0_173 : zt_code 0 173 = some (.iload_n 3, 174, 0, 0, []) := rfl
theorem kc0_174 : zt_code 0 174 = some (.iconst 1, 175, 0, 0, []) := rfl
theorem kc0_175 : zt_code 0 175 = some (.iadd, 176, 0, 0, []) := rfl
theorem kc0_176 : zt_code 0 176 = some (.iaload, 177, 0, 0, []) := rfl
theorem kc0_177 : zt_code 0 177 = some (.aload_n 0, 178, 0, 0, []) := rfl
theorem kc0_178 : zt_code 0 178 = some (.iload_n 3, 179, 0, 0, []) := rfl
set_option maxRecDepth 20000 in
theorem kc0_179 : zt_code 0 179 = some (.iconst 2, 180, 0, 0, []) := rfl
set_option maxRecDepth 20000 in
theorem kc0_180 : zt_code 0 180 = some (.iadd, 181, 0, 0, []) := rfl
set_option maxRecDepth 20000 in
theorem kc0_181 : zt_code 0 181 = some (.iaload, 182, 0, 0, []) := rfl
set_option maxRecDepth 20000 in
theorem kc0_182 : zt_code 0 182 = some (.invokevirtual 20, 185, 47, 2, []) := rfl
set_option maxRecDepth 20000 in
theorem kc0_185 : zt_code 0 185 = some (.aload_n 2, 186, 0, 0, []) := rfl
set_option maxRecDepth 20000 in
theorem kc0_186 : zt_code 0 186 = some (.aload_n 0, 187, 0, 0, []) := rfl
set_option maxRecDepth 20000 in
theorem kc0_187 : zt_code 0 187 = some (.iload_n 3, 188, 0, 0, []) := rfl
set_option maxRecDepth 20000 in
theorem kc0_188 : zt_code 0 188 = some (.iconst 1, 189, 0, 0, []) := rfl
set_option maxRecDepth 20000 in
theorem kc0_189 : zt_code 0 189 = some (.iadd, 190, 0, 0, []) := rfl
set_option maxRecDepth 20000 in
theorem kc0_190 : zt_code 0 190 = some (.iaload, 191, 0, 0, []) := rfl
set_option maxRecDepth 20000 in
theorem kc0_191 : zt_code 0 191 = some (.aload_n 0, 192, 0, 0, []) := rfl
set_option maxRecDepth 20000 in
theorem kc0_192 : zt_code 0 192 = some (.iload_n 3, 193, 0, 0, []) := rfl
set_option maxRecDepth 20000 in
theorem kc0_193 : zt_code 0 193 = some (.iconst 2, 194, 0, 0, []) := rfl
set_option maxRecDepth 20000 in
theorem kc0_194 : zt_code 0 194 = some (.iadd, 195, 0, 0, []) := rfl
set_option maxRecDepth 20000 in
theorem kc0_195 : zt_code 0 195 = some (.iaload, 196, 0, 0, []) := rfl
set_option maxRecDepth 20000 in
theorem kc0_196 : zt_code 0 196 = some (.invokevirtual 24, 199, 75, 2, []) := rfl
set_option maxRecDepth 20000 in
theorem kc0_199 : zt_code 0 199 = some (.if_icmp .eq 280, 202, 479, 0, []) := rfl
set_option maxRecDepth 20000 in
theorem kc0_202 : zt_code 0 202 = some (.iconst 0, 203, 0, 0, []) := rfl
set_option maxRecDepth 20000 in
theorem kc0_203 : zt_code 0 203 = some (.ireturn, 204, 0, 0, []) := rfl
set_option maxRecDepth 20000 in
theorem kc0_204 : zt_code 0 204 = some (.aload_n 1, 205, 0, 0, []) := rfl
set_option maxRecDepth 20000 in
theorem kc0_205 : zt_code 0 205 = some (.aload_n 0, 206, 0, 0, []) := rfl
set_option maxRecDepth 20000 in
theorem kc0_206 : zt_code 0 206 = some (.iload_n 3, 207, 0, 0, []) := rfl
set_option maxRecDepth 20000 in
theorem kc0_207 : zt_code 0 207 = some (.iconst 1, 208, 0, 0, []) := rfl
set_option maxRecDepth 20000 in
theorem kc0_208 : zt_code 0 208 = some (.iadd, 209, 0, 0, []) := rfl
set_option maxRecDepth 20000 in
theorem kc0_209 : zt_code 0 209 = some (.iaload, 210, 0, 0, []) := rfl
set_option maxRecDepth 20000 in
theorem kc0_210 : zt_code 0 210 = some (.invokevirtual 25, 213, 48, 1, []) := rfl
set_option maxRecDepth 20000 in
theorem kc0_213 : zt_code 0 213 = some (.aload_n 2, 214, 0, 0, []) := rfl
set_option maxRecDepth 20000 in
theorem kc0_214 : zt_code 0 214 = some (.aload_n 0, 215, 0, 0, []) := rfl
set_option maxRecDepth 20000 in
theorem kc0_215 : zt_code 0 215 = some (.iload_n 3, 216, 0, 0, []) := rfl
set_option maxRecDepth 20000 in
theorem kc0_216 : zt_code 0 216 = some (.iconst 1, 217, 0, 0, []) := rfl
set_option maxRecDepth 20000 in
theorem kc0_217 : zt_code 0 217 = some (.iadd, 218, 0, 0, []) := rfl
set_option maxRecDepth 20000 in
theorem kc0_218 : zt_code 0 218 = some (.iaload, 219, 0, 0, []) := rfl
set_option maxRecDepth 20000 in
theorem kc0_219 : zt_code 0 219 = some (.invokevirtual 29, 222, 93, 1, []) := rfl
set_option maxRecDepth 20000 in
theorem kc0_222 : zt_code 0 222 = some (.if_icmp .eq 257, 225, 479, 0, []) := rfl
set_option maxRecDepth 20000 in
theorem kc0_225 : zt_code 0 225 = some (.iconst 0, 226, 0, 0, []) := rfl
set_option maxRecDepth 20000 in
theorem kc0_226 : zt_code 0 226 = some (.ireturn, 227, 0, 0, []) := rfl
set_option maxRecDepth 20000 in
theorem kc0_227 : zt_code 0 227 = some (.aload_n 1, 228, 0, 0, []) := rfl
set_option maxRecDepth 20000 in
theorem kc0_228 : zt_code 0 228 = some (.aload_n 0, 229, 0, 0, []) := rfl
set_option maxRecDepth 20000 in
theorem kc0_229 : zt_code 0 229 = some (.iload_n 3, 230, 0, 0, []) := rfl
set_option maxRecDepth 20000 in
theorem kc0_230 : zt_code 0 230 = some (.iconst 1, 231, 0, 0, []) := rfl
set_option maxRecDepth 20000 in
theorem kc0_231 : zt_code 0 231 = some (.iadd, 232, 0, 0, []) := rfl
set_option maxRecDepth 20000 in
theorem kc0_232 : zt_code 0 232 = some (.iaload, 233, 0, 0, []) := rfl
set_option maxRecDepth 20000 in
theorem kc0_233 : zt_code 0 233 = some (.invokevirtual 30, 236, 49, 1, []) := rfl
set_option maxRecDepth 20000 in
theorem kc0_236 : zt_code 0 236 = some (.aload_n 2, 237, 0, 0, []) := rfl
set_option maxRecDepth 20000 in
theorem kc0_237 : zt_code 0 237 = some (.aload_n 0, 238, 0, 0, []) := rfl
set_option maxRecDepth 20000 in
theorem kc0_238 : zt_code 0 238 = some (.iload_n 3, 239, 0, 0, []) := rfl
set_option maxRecDepth 20000 in
theorem kc0_239 : zt_code 0 239 = some (.iconst 1, 240, 0, 0, []) := rfl
set_option maxRecDepth 20000 in
theorem kc0_240 : zt_code 0 240 = some (.iadd, 241, 0, 0, []) := rfl
set_option maxRecDepth 20000 in
theorem kc0_241 : zt_code 0 241 = some (.iaload, 242, 0, 0, []) := rfl
set_option maxRecDepth 20000 in
theorem kc0_242 : zt_code 0 242 = some (.invokevirtual 33, 245, 95, 1, []) := rfl
set_option maxRecDepth 20000 in
theorem kc0_245 : zt_code 0 245 = some (.if_icmp .eq 234, 248, 479, 0, []) := rfl
set_option maxRecDepth 20000 in
theorem kc0_248 : zt_code 0 248 = some (.iconst 0, 249, 0, 0, []) := rfl
set_option maxRecDepth 20000 in
theorem kc0_249 : zt_code 0 249 = some (.ireturn, 250, 0, 0, []) := rfl
set_option maxRecDepth 20000 in
theorem kc0_250 : zt_code 0 250 = some (.aload_n 1, 251, 0, 0, []) := rfl
set_option maxRecDepth 20000 in
theorem kc0_251 : zt_code 0 251 = some (.invokevirtual 34, 254, 50, 0, []) := rfl
set_option maxRecDepth 20000 in
theorem kc0_254 : zt_code 0 254 = some (.aload_n 2, 255, 0, 0, []) := rfl
set_option maxRecDepth 20000 in
theorem kc0_255 : zt_code 0 255 = some (.invokevirtual 38, 258, 96, 0, []) := rfl
set_option maxRecDepth 20000 in
theorem kc0_258 : zt_code 0 258 = some (.if_icmp .eq 221, 261, 479, 0, []) := rfl
set_option maxRecDepth 20000 in
theorem kc0_261 : zt_code 0 261 = some (.iconst 0, 262, 0, 0, []) := rfl
set_option maxRecDepth 20000 in
theorem kc0_262 : zt_code 0 262 = some (.ireturn, 263, 0, 0, []) := rfl
set_option maxRecDepth 20000 in
theorem kc0_263 : zt_code 0 263 = some (.aload_n 1, 264, 0, 0, []) := rfl
set_option maxRecDepth 20000 in
theorem kc0_264 : zt_code 0 264 = some (.invokevirtual 39, 267, 51, 0, []) := rfl
set_option maxRecDepth 20000 in
theorem kc0_267 : zt_code 0 267 = some (.aload_n 2, 268, 0, 0, []) := rfl
set_option maxRecDepth 20000 in
theorem kc0_268 : zt_code 0 268 = some (.invokevirtual 42, 271, 97, 0, []) := rfl
set_option maxRecDepth 20000 in
theorem kc0_271 : zt_code 0 271 = some (.if_icmp .eq 208, 274, 479, 0, []) := rfl
set_option maxRecDepth 20000 in
theorem kc0_274 : zt_code 0 274 = some (.iconst 0, 275, 0, 0, []) := rfl
set_option maxRecDepth 20000 in
theorem kc0_275 : zt_code 0 275 = some (.ireturn, 276, 0, 0, []) := rfl
set_option maxRecDepth 20000 in
theorem kc0_276 : zt_code 0 276 = some (.aload_n 1, 277, 0, 0, []) := rfl
set_option maxRecDepth 20000 in
theorem kc0_277 : zt_code 0 277 = some (.invokevirtual 43, 280, 52, 0, []) := rfl
set_option maxRecDepth 20000 in
theorem kc0_280 : zt_code 0 280 = some (.aload_n 2, 281, 0, 0, []) := rfl
set_option maxRecDepth 20000 in
theorem kc0_281 : zt_code 0 281 = some (.invokevirtual 46, 284, 98, 0, []) := rfl
set_option maxRecDepth 20000 in
theorem kc0_284 : zt_code 0 284 = some (.if_icmp .eq 195, 287, 479, 0, []) := rfl
set_option maxRecDepth 20000 in
theorem kc0_287 : zt_code 0 287 = some (.iconst 0, 288, 0, 0, []) := rfl
set_option maxRecDepth 20000 in
theorem kc0_288 : zt_code 0 288 = some (.ireturn, 289, 0, 0, []) := rfl
set_option maxRecDepth 20000 in
theorem kc0_289 : zt_code 0 289 = some (.aload_n 1, 290, 0, 0, []) := rfl
set_option maxRecDepth 20000 in
theorem kc0_290 : zt_code 0 290 = some (.invokevirtual 47, 293, 53, 0, []) := rfl
set_option maxRecDepth 20000 in
theorem kc0_293 : zt_code 0 293 = some (.aload_n 2, 294, 0, 0, []) := rfl
set_option maxRecDepth 20000 in
theorem kc0_294 : zt_code 0 294 = some (.invokevirtual 50, 297, 99, 0, []) := rfl
set_option maxRecDepth 20000 in
theorem kc0_297 : zt_code 0 297 = some (.if_icmp .eq 182, 300, 479, 0, []) := rfl
set_option maxRecDepth 20000 in
theorem kc0_300 : zt_code 0 300 = some (.iconst 0, 301, 0, 0, []) := rfl
set_option maxRecDepth 20000 in
theorem kc0_301 : zt_code 0 301 = some (.ireturn, 302, 0, 0, []) := rfl
set_option maxRecDepth 20000 in
theorem kc0_302 : zt_code 0 302 = some (.aload_n 1, 303, 0, 0, []) := rfl
set_option maxRecDepth 20000 in
theorem kc0_303 : zt_code 0 303 = some (.invokevirtual 51, 306, 54, 0, []) := rfl
set_option maxRecDepth 20000 in
theorem kc0_306 : zt_code 0 306 = some (.aload_n 2, 307, 0, 0, []) := rfl
set_option maxRecDepth 20000 in
theorem kc0_307 : zt_code 0 307 = some (.invokevirtual 54, 310, 101, 0, []) := rfl
set_option maxRecDepth 20000 in
theorem kc0_310 : zt_code 0 310 = some (.if_icmp .eq 169, 313, 479, 0, []) := rfl
set_option maxRecDepth 20000 in
theorem kc0_313 : zt_code 0 313 = some (.iconst 0, 314, 0, 0, []) := rfl
set_option maxRecDepth 20000 in
theorem kc0_314 : zt_code 0 314 = some (.ireturn, 315, 0, 0, []) := rfl
set_option maxRecDepth 20000 in
theorem kc0_315 : zt_code 0 315 = some (.aload_n 1, 316, 0, 0, []) := rfl
set_option maxRecDepth 20000 in
theorem kc0_316 : zt_code 0 316 = some (.aload_n 0, 317, 0, 0, []) := rfl
set_option maxRecDepth 20000 in
theorem kc0_317 : zt_code 0 317 = some (.iload_n 3, 318, 0, 0, []) := rfl
set_option maxRecDepth 20000 in
theorem kc0_318 : zt_code 0 318 = some (.iconst 1, 319, 0, 0, []) := rfl
set_option maxRecDepth 20000 in
theorem kc0_319 : zt_code 0 319 = some (.iadd, 320, 0, 0, []) := rfl
set_option maxRecDepth 20000 in
theorem kc0_320 : zt_code 0 320 = some (.iaload, 321, 0, 0, []) := rfl
set_option maxRecDepth 20000 in
theorem kc0_321 : zt_code 0 321 = some (.ifCond .eq 7, 324, 328, 0, []) := rfl
set_option maxRecDepth 20000 in
theorem kc0_324 : zt_code 0 324 = some (.iconst 1, 325, 0, 0, []) := rfl
set_option maxRecDepth 20000 in
theorem kc0_325 : zt_code 0 325 = some (.goto 4, 328, 329, 0, []) := rfl
set_option maxRecDepth 20000 in
theorem kc0_328 : zt_code 0 328 = some (.iconst 0, 329, 0, 0, []) := rfl
set_option maxRecDepth 20000 in
theorem kc0_329 : zt_code 0 329 = some (.invokevirtual 55, 332, 55, 1, []) := rfl
set_option maxRecDepth 20000 in
theorem kc0_332 : zt_code 0 332 = some (.aload_n 2, 333, 0, 0, []) := rfl
set_option maxRecDepth 20000 in
theorem kc0_333 : zt_code 0 333 = some (.aload_n 0, 334, 0, 0, []) := rfl
set_option maxRecDepth 20000 in
theorem kc0_334 : zt_code 0 334 = some (.iload_n 3, 335, 0, 0, []) := rfl
set_option maxRecDepth 20000 in
theorem kc0_335 : zt_code 0 335 = some (.iconst 1, 336, 0, 0, []) := rfl
set_option maxRecDepth 20000 in
theorem kc0_336 : zt_code 0 336 = some (.iadd, 337, 0, 0, []) := rfl
set_option maxRecDepth 20000 in
theorem kc0_337 : zt_code 0 337 = some (.iaload, 338, 0, 0, []) := rfl
set_option maxRecDepth 20000 in
theorem kc0_338 : zt_code 0 338 = some (.ifCond .eq 7, 341, 345, 0, []) := rfl
set_option maxRecDepth 20000 in
theorem kc0_341 : zt_code 0 341 = some (.iconst 1, 342, 0, 0, []) := rfl
set_option maxRecDepth 20000 in
theorem kc0_342 : zt_code 0 342 = some (.goto 4, 345, 346, 0, []) := rfl
set_option maxRecDepth 20000 in
theorem kc0_345 : zt_code 0 345 = some (.iconst 0, 346, 0, 0, []) := rfl
set_option maxRecDepth 20000 in
theorem kc0_346 : zt_code 0 346 = some (.invokevirtual 59, 349, 102, 1, []) := rfl
set_option maxRecDepth 20000 in
theorem kc0_349 : zt_code 0 349 = some (.if_icmp .eq 130, 352, 479, 0, []) := rfl
set_option maxRecDepth 20000 in
theorem kc0_352 : zt_code 0 352 = some (.iconst 0, 353, 0, 0, []) := rfl
set_option maxRecDepth 20000 in
theorem kc0_353 : zt_code 0 353 = some (.ireturn, 354, 0, 0, []) := rfl
set_option maxRecDepth 20000 in
theorem kc0_354 : zt_code 0 354 = some (.aload_n 1, 355, 0, 0, []) := rfl
set_option maxRecDepth 20000 in
theorem kc0_355 : zt_code 0 355 = some (.invokevirtual 60, 358, 56, 0, []) := rfl
set_option maxRecDepth 20000 in
theorem kc0_358 : zt_code 0 358 = some (.aload_n 2, 359, 0, 0, []) := rfl
set_option maxRecDepth 20000 in
theorem kc0_359 : zt_code 0 359 = some (.invokevirtual 63, 362, 103, 0, []) := rfl
set_option maxRecDepth 20000 in
theorem kc0_362 : zt_code 0 362 = some (.if_icmp .eq 117, 365, 479, 0, []) := rfl
set_option maxRecDepth 20000 in
theorem kc0_365 : zt_code 0 365 = some (.iconst 0, 366, 0, 0, []) := rfl
set_option maxRecDepth 20000 in
theorem kc0_366 : zt_code 0 366 = some (.ireturn, 367, 0, 0, []) := rfl
set_option maxRecDepth 20000 in
theorem kc0_367 : zt_code 0 367 = some (.aload_n 1, 368, 0, 0, []) := rfl
set_option maxRecDepth 20000 in
theorem kc0_368 : zt_code 0 368 = some (.aload_n 0, 369, 0, 0, []) := rfl
set_option maxRecDepth 20000 in
theorem kc0_369 : zt_code 0 369 = some (.iload_n 3, 370, 0, 0, []) := rfl
set_option maxRecDepth 20000 in
theorem kc0_370 : zt_code 0 370 = some (.iconst 1, 371, 0, 0, []) := rfl
set_option maxRecDepth 20000 in
theorem kc0_371 : zt_code 0 371 = some (.iadd, 372, 0, 0, []) := rfl
set_option maxRecDepth 20000 in
theorem kc0_372 : zt_code 0 372 = some (.iaload, 373, 0, 0, []) := rfl
set_option maxRecDepth 20000 in
theorem kc0_373 : zt_code 0 373 = some (.invokevirtual 64, 376, 57, 1, []) := rfl
set_option maxRecDepth 20000 in
theorem kc0_376 : zt_code 0 376 = some (.aload_n 2, 377, 0, 0, []) := rfl
set_option maxRecDepth 20000 in
theorem kc0_377 : zt_code 0 377 = some (.aload_n 0, 378, 0, 0, []) := rfl
set_option maxRecDepth 20000 in
theorem kc0_378 : zt_code 0 378 = some (.iload_n 3, 379, 0, 0, []) := rfl
set_option maxRecDepth 20000 in
theorem kc0_379 : zt_code 0 379 = some (.iconst 1, 380, 0, 0, []) := rfl
set_option maxRecDepth 20000 in
theorem kc0_380 : zt_code 0 380 = some (.iadd, 381, 0, 0, []) := rfl
set_option maxRecDepth 20000 in
theorem kc0_381 : zt_code 0 381 = some (.iaload, 382, 0, 0, []) := rfl
set_option maxRecDepth 20000 in
theorem kc0_382 : zt_code 0 382 = some (.invokevirtual 67, 385, 105, 1, []) := rfl
set_option maxRecDepth 20000 in
theorem kc0_385 : zt_code 0 385 = some (.if_icmp .eq 94, 388, 479, 0, []) := rfl
set_option maxRecDepth 20000 in
theorem kc0_388 : zt_code 0 388 = some (.iconst 0, 389, 0, 0, []) := rfl
set_option maxRecDepth 20000 in
theorem kc0_389 : zt_code 0 389 = some (.ireturn, 390, 0, 0, []) := rfl
set_option maxRecDepth 20000 in
theorem kc0_390 : zt_code 0 390 = some (.aload_n 1, 391, 0, 0, []) := rfl
set_option maxRecDepth 20000 in
theorem kc0_391 : zt_code 0 391 = some (.aload_n 0, 392, 0, 0, []) := rfl
set_option maxRecDepth 20000 in
theorem kc0_392 : zt_code 0 392 = some (.iload_n 3, 393, 0, 0, []) := rfl
set_option maxRecDepth 20000 in
theorem kc0_393 : zt_code 0 393 = some (.iconst 1, 394, 0, 0, []) := rfl
set_option maxRecDepth 20000 in
theorem kc0_394 : zt_code 0 394 = some (.iadd, 395, 0, 0, []) := rfl
set_option maxRecDepth 20000 in
theorem kc0_395 : zt_code 0 395 = some (.iaload, 396, 0, 0, []) := rfl
set_option maxRecDepth 20000 in
theorem kc0_396 : zt_code 0 396 = some (.aload_n 0, 397, 0, 0, []) := rfl
set_option maxRecDepth 20000 in
theorem kc0_397 : zt_code 0 397 = some (.iload_n 3, 398, 0, 0, []) := rfl
set_option maxRecDepth 20000 in
theorem kc0_398 : zt_code 0 398 = some (.iconst 2, 399, 0, 0, []) := rfl
set_option maxRecDepth 20000 in
theorem kc0_399 : zt_code 0 399 = some (.iadd, 400, 0, 0, []) := rfl
set_option maxRecDepth 20000 in
theorem kc0_400 : zt_code 0 400 = some (.iaload, 401, 0, 0, []) := rfl
set_option maxRecDepth 20000 in
theorem kc0_401 : zt_code 0 401 = some (.invokevirtual 68, 404, 58, 2, []) := rfl
set_option maxRecDepth 20000 in
theorem kc0_404 : zt_code 0 404 = some (.aload_n 2, 405, 0, 0, []) := rfl
set_option maxRecDepth 20000 in
theorem kc0_405 : zt_code 0 405 = some (.aload_n 0, 406, 0, 0, []) := rfl
set_option maxRecDepth 20000 in
theorem kc0_406 : zt_code 0 406 = some (.iload_n 3, 407, 0, 0, []) := rfl
set_option maxRecDepth 20000 in
theorem kc0_407 : zt_code 0 407 = some (.iconst 1, 408, 0, 0, []) := rfl
set_option maxRecDepth 20000 in
theorem kc0_408 : zt_code 0 408 = some (.iadd, 409, 0, 0, []) := rfl
set_option maxRecDepth 20000 in
theorem kc0_409 : zt_code 0 409 = some (.iaload, 410, 0, 0, []) := rfl
set_option maxRecDepth 20000 in
theorem kc0_410 : zt_code 0 410 = some (.aload_n 0, 411, 0, 0, []) := rfl
set_option maxRecDepth 20000 in
theorem kc0_411 : zt_code 0 411 = some (.iload_n 3, 412, 0, 0, []) := rfl
set_option maxRecDepth 20000 in
theorem kc0_412 : zt_code 0 412 = some (.iconst 2, 413, 0, 0, []) := rfl
set_option maxRecDepth 20000 in
theorem kc0_413 : zt_code 0 413 = some (.iadd, 414, 0, 0, []) := rfl
set_option maxRecDepth 20000 in
theorem kc0_414 : zt_code 0 414 = some (.iaload, 415, 0, 0, []) := rfl
set_option maxRecDepth 20000 in
theorem kc0_415 : zt_code 0 415 = some (.invokevirtual 71, 418, 107, 2, []) := rfl
set_option maxRecDepth 20000 in
theorem kc0_418 : zt_code 0 418 = some (.if_icmp .eq 61, 421, 479, 0, []) := rfl
set_option maxRecDepth 20000 in
theorem kc0_421 : zt_code 0 421 = some (.iconst 0, 422, 0, 0, []) := rfl
set_option maxRecDepth 20000 in
theorem kc0_422 : zt_code 0 422 = some (.ireturn, 423, 0, 0, []) := rfl
set_option maxRecDepth 20000 in
theorem kc0_423 : zt_code 0 423 = some (.aload_n 1, 424, 0, 0, []) := rfl
set_option maxRecDepth 20000 in
theorem kc0_424 : zt_code 0 424 = some (.aload_n 0, 425, 0, 0, []) := rfl
set_option maxRecDepth 20000 in
theorem kc0_425 : zt_code 0 425 = some (.iload_n 3, 426, 0, 0, []) := rfl
set_option maxRecDepth 20000 in
theorem kc0_426 : zt_code 0 426 = some (.iconst 1, 427, 0, 0, []) := rfl
set_option maxRecDepth 20000 in
theorem kc0_427 : zt_code 0 427 = some (.iadd, 428, 0, 0, []) := rfl
set_option maxRecDepth 20000 in
theorem kc0_428 : zt_code 0 428 = some (.iaload, 429, 0, 0, []) := rfl
set_option maxRecDepth 20000 in
theorem kc0_429 : zt_code 0 429 = some (.aload_n 0, 430, 0, 0, []) := rfl
set_option maxRecDepth 20000 in
theorem kc0_430 : zt_code 0 430 = some (.iload_n 3, 431, 0, 0, []) := rfl
set_option maxRecDepth 20000 in
theorem kc0_431 : zt_code 0 431 = some (.iconst 2, 432, 0, 0, []) := rfl
set_option maxRecDepth 20000 in
theorem kc0_432 : zt_code 0 432 = some (.iadd, 433, 0, 0, []) := rfl
set_option maxRecDepth 20000 in
theorem kc0_433 : zt_code 0 433 = some (.iaload, 434, 0, 0, []) := rfl
set_option maxRecDepth 20000 in
theorem kc0_434 : zt_code 0 434 = some (.invokevirtual 72, 437, 59, 2, []) := rfl
set_option maxRecDepth 20000 in
theorem kc0_437 : zt_code 0 437 = some (.aload_n 2, 438, 0, 0, []) := rfl
set_option maxRecDepth 20000 in
theorem kc0_438 : zt_code 0 438 = some (.aload_n 0, 439, 0, 0, []) := rfl
set_option maxRecDepth 20000 in
theorem kc0_439 : zt_code 0 439 = some (.iload_n 3, 440, 0, 0, []) := rfl
set_option maxRecDepth 20000 in
theorem kc0_440 : zt_code 0 440 = some (.iconst 1, 441, 0, 0, []) := rfl
set_option maxRecDepth 20000 in
theorem kc0_441 : zt_code 0 441 = some (.iadd, 442, 0, 0, []) := rfl
set_option maxRecDepth 20000 in
theorem kc0_442 : zt_code 0 442 = some (.iaload, 443, 0, 0, []) := rfl
set_option maxRecDepth 20000 in
theorem kc0_443 : zt_code 0 443 = some (.aload_n 0, 444, 0, 0, []) := rfl
set_option maxRecDepth 20000 in
theorem kc0_444 : zt_code 0 444 = some (.iload_n 3, 445, 0, 0, []) := rfl
set_option maxRecDepth 20000 in
theorem kc0_445 : zt_code 0 445 = some (.iconst 2, 446, 0, 0, []) := rfl
set_option maxRecDepth 20000 in
theorem kc0_446 : zt_code 0 446 = some (.iadd, 447, 0, 0, []) := rfl
set_option maxRecDepth 20000 in
theorem kc0_447 : zt_code 0 447 = some (.iaload, 448, 0, 0, []) := rfl
set_option maxRecDepth 20000 in
theorem kc0_448 : zt_code 0 448 = some (.invokevirtual 75, 451, 108, 2, []) := rfl
set_option maxRecDepth 20000 in
theorem kc0_451 : zt_code 0 451 = some (.if_icmp .eq 28, 454, 479, 0, []) := rfl
set_option maxRecDepth 20000 in
theorem kc0_454 : zt_code 0 454 = some (.iconst 0, 455, 0, 0, []) := rfl
set_option maxRecDepth 20000 in
theorem kc0_455 : zt_code 0 455 = some (.ireturn, 456, 0, 0, []) := rfl
set_option maxRecDepth 20000 in
theorem kc0_456 : zt_code 0 456 = some (.aload_n 1, 457, 0, 0, []) := rfl
set_option maxRecDepth 20000 in
theorem kc0_457 : zt_code 0 457 = some (.aload_n 0, 458, 0, 0, []) := rfl
set_option maxRecDepth 20000 in
theorem kc0_458 : zt_code 0 458 = some (.iload_n 3, 459, 0, 0, []) := rfl
set_option maxRecDepth 20000 in
theorem kc0_459 : zt_code 0 459 = some (.iconst 1, 460, 0, 0, []) := rfl
set_option maxRecDepth 20000 in
theorem kc0_460 : zt_code 0 460 = some (.iadd, 461, 0, 0, []) := rfl
set_option maxRecDepth 20000 in
theorem kc0_461 : zt_code 0 461 = some (.iaload, 462, 0, 0, []) := rfl
set_option maxRecDepth 20000 in
theorem kc0_462 : zt_code 0 462 = some (.invokevirtual 76, 465, 60, 1, []) := rfl
set_option maxRecDepth 20000 in
theorem kc0_465 : zt_code 0 465 = some (.aload_n 2, 466, 0, 0, []) := rfl
set_option maxRecDepth 20000 in
theorem kc0_466 : zt_code 0 466 = some (.aload_n 0, 467, 0, 0, []) := rfl
set_option maxRecDepth 20000 in
theorem kc0_467 : zt_code 0 467 = some (.iload_n 3, 468, 0, 0, []) := rfl
set_option maxRecDepth 20000 in
theorem kc0_468 : zt_code 0 468 = some (.iconst 1, 469, 0, 0, []) := rfl
set_option maxRecDepth 20000 in
theorem kc0_469 : zt_code 0 469 = some (.iadd, 470, 0, 0, []) := rfl
set_option maxRecDepth 20000 in
theorem kc0_470 : zt_code 0 470 = some (.iaload, 471, 0, 0, []) := rfl
set_option maxRecDepth 20000 in
theorem kc0_471 : zt_code 0 471 = some (.invokevirtual 79, 474, 109, 1, []) := rfl
set_option maxRecDepth 20000 in
theorem kc0_474 : zt_code 0 474 = some (.if_icmp .eq 5, 477, 479, 0, []) := rfl
set_option maxRecDepth 20000 in
theorem kc0_477 : zt_code 0 477 = some (.iconst 0, 478, 0, 0, []) := rfl
set_option maxRecDepth 20000 in
theorem kc0_478 : zt_code 0 478 = some (.ireturn, 479, 0, 0, []) := rfl
set_option maxRecDepth 20000 in
theorem kc0_479 : zt_code 0 479 = some (.iinc 3 4, 482, 0, 0, []) := rfl
set_option maxRecDepth 20000 in
theorem kc0_482 : zt_code 0 482 = some (.goto (-464), 485, 18, 0, []) := rfl
set_option maxRecDepth 20000 in
theorem kc0_485 : zt_code 0 485 = some (.iconst 1, 486, 0, 0, []) := rfl
set_option maxRecDepth 20000 in
theorem kc0_486 : zt_code 0 486 = some (.ireturn, 487, 0, 0, []) := rfl
theorem kc1_0 : zt_code 1 0 = some (.aload_n 0, 1, 0, 0, []) := rfl
theorem kc1_1 : zt_code 1 1 = some (.invokespecial 3, 4, 1000, 0, []) := rfl
theorem kc1_4 : zt_code 1 4 = some (.aload_n 0, 5, 0, 0, []) := rfl
theorem kc1_5 : zt_code 1 5 = some (.bipush 40, 7, 0, 0, []) := rfl
theorem kc1_7 : zt_code 1 7 = some (.anewarray 9, 10, 205, 0, []) := rfl
theorem kc1_10 : zt_code 1 10 = some (.putfield 11, 13, 0, 0, []) := rfl
theorem kc1_13 : zt_code 1 13 = some (.aload_n 0, 14, 0, 0, []) := rfl
theorem kc1_14 : zt_code 1 14 = some (.new 9, 17, 5, 9, []) := rfl
theorem kc1_17 : zt_code 1 17 = some (.dup, 18, 0, 0, []) := rfl
theorem kc1_18 : zt_code 1 18 = some (.iconst 1, 19, 0, 0, []) := rfl
theorem kc1_19 : zt_code 1 19 = some (.invokespecial 17, 22, 26, 1, []) := rfl
theorem kc1_22 : zt_code 1 22 = some (.putfield 20, 25, 0, 1, []) := rfl
theorem kc1_25 : zt_code 1 25 = some (.aload_n 0, 26, 0, 0, []) := rfl
theorem kc1_26 : zt_code 1 26 = some (.getfield 20, 29, 0, 1, []) := rfl
theorem kc1_29 : zt_code 1 29 = some (.iconst 2, 30, 0, 0, []) := rfl
theorem kc1_30 : zt_code 1 30 = some (.invokevirtual 24, 33, 27, 1, []) := rfl
theorem kc1_33 : zt_code 1 33 = some (.aload_n 0, 34, 0, 0, []) := rfl
theorem kc1_34 : zt_code 1 34 = some (.getfield 20, 37, 0, 1, []) := rfl
theorem kc1_37 : zt_code 1 37 = some (.aload_n 0, 38, 0, 0, []) := rfl
theorem kc1_38 : zt_code 1 38 = some (.getfield 20, 41, 0, 1, []) := rfl
theorem kc1_41 : zt_code 1 41 = some (.putfield 27, 44, 5, 6, []) := rfl
theorem kc1_44 : zt_code 1 44 = some (.aload_n 0, 45, 0, 0, []) := rfl
theorem kc1_45 : zt_code 1 45 = some (.getfield 11, 48, 0, 0, []) := rfl
theorem kc1_48 : zt_code 1 48 = some (.iconst 0, 49, 0, 0, []) := rfl
theorem kc1_49 : zt_code 1 49 = some (.aload_n 0, 50, 0, 0, []) := rfl
theorem kc1_50 : zt_code 1 50 = some (.getfield 20, 53, 0, 1, []) := rfl
theorem kc1_53 : zt_code 1 53 = some (.aastore, 54, 0, 0, []) := rfl
theorem kc1_54 : zt_code 1 54 = some (.iconst 1, 55, 0, 0, []) := rfl
theorem kc1_55 : zt_code 1 55 = some (.istore_n 1, 56, 0, 0, []) := rfl
theorem kc1_56 : zt_code 1 56 = some (.iload_n 1, 57, 0, 0, []) := rfl
theorem kc1_57 : zt_code 1 57 = some (.aload_n 0, 58, 0, 0, []) := rfl
theorem kc1_58 : zt_code 1 58 = some (.getfield 11, 61, 0, 0, []) := rfl
theorem kc1_61 : zt_code 1 61 = some (.arraylength, 62, 0, 0, []) := rfl
theorem kc1_62 : zt_code 1 62 = some (.if_icmp .ge 25, 65, 87, 0, []) := rfl
theorem kc1_65 : zt_code 1 65 = some (.aload_n 0, 66, 0, 0, []) := rfl
theorem kc1_66 : zt_code 1 66 = some (.getfield 11, 69, 0, 0, []) := rfl
theorem kc1_69 : zt_code 1 69 = some (.iload_n 1, 70, 0, 0, []) := rfl
theorem kc1_70 : zt_code 1 70 = some (.new 9, 73, 5, 9, []) := rfl
theorem kc1_73 : zt_code 1 73 = some (.dup, 74, 0, 0, []) := rfl
theorem kc1_74 : zt_code 1 74 = some (.iload_n 1, 75, 0, 0, []) := rfl
theorem kc1_75 : zt_code 1 75 = some (.iconst 1, 76, 0, 0, []) := rfl
theorem kc1_76 : zt_code 1 76 = some (.iadd, 77, 0, 0, []) := rfl
theorem kc1_77 : zt_code 1 77 = some (.invokespecial 17, 80, 26, 1, []) := rfl
theorem kc1_80 : zt_code 1 80 = some (.aastore, 81, 0, 0, []) := rfl
theorem kc1_81 : zt_code 1 81 = some (.iinc 1 1, 84, 0, 0, []) := rfl
theorem kc1_84 : zt_code 1 84 = some (.goto (-28), 87, 56, 0, []) := rfl
theorem kc1_87 : zt_code 1 87 = some (.return_, 88, 0, 0, []) := rfl
theorem kc2_0 : zt_code 2 0 = some (.iload_n 1, 1, 0, 0, []) := rfl
theorem kc2_1 : zt_code 2 1 = some (.iconst 1, 2, 0, 0, []) := rfl
theorem kc2_2 : zt_code 2 2 = some (.if_icmp .lt 12, 5, 14, 0, []) := rfl
theorem kc2_5 : zt_code 2 5 = some (.iload_n 1, 6, 0, 0, []) := rfl
theorem kc2_6 : zt_code 2 6 = some (.aload_n 0, 7, 0, 0, []) := rfl
theorem kc2_7 : zt_code 2 7 = some (.getfield 11, 10, 0, 0, []) := rfl
theorem kc2_10 : zt_code 2 10 = some (.arraylength, 11, 0, 0, []) := rfl
theorem kc2_11 : zt_code 2 11 = some (.if_icmp .le 5, 14, 16, 0, []) := rfl
theorem kc2_14 : zt_code 2 14 = some (.aconst_null, 15, 0, 0, []) := rfl
theorem kc2_15 : zt_code 2 15 = some (.areturn, 16, 0, 0, []) := rfl
theorem kc2_16 : zt_code 2 16 = some (.aload_n 0, 17, 0, 0, []) := rfl
theorem kc2_17 : zt_code 2 17 = some (.getfield 11, 20, 0, 0, []) := rfl
theorem kc2_20 : zt_code 2 20 = some (.iload_n 1, 21, 0, 0, []) := rfl
theorem kc2_21 : zt_code 2 21 = some (.iconst 1, 22, 0, 0, []) := rfl
theorem kc2_22 : zt_code 2 22 = some (.isub, 23, 0, 0, []) := rfl
theorem kc2_23 : zt_code 2 23 = some (.aaload, 24, 0, 0, []) := rfl
theorem kc2_24 : zt_code 2 24 = some (.astore_n 2, 25, 0, 0, []) := rfl
theorem kc2_25 : zt_code 2 25 = some (.aload_n 2, 26, 0, 0, []) := rfl
theorem kc2_26 : zt_code 2 26 = some (.ifnull 10, 29, 36, 0, []) := rfl
theorem kc2_29 : zt_code 2 29 = some (.aload_n 2, 30, 0, 0, []) := rfl
theorem kc2_30 : zt_code 2 30 = some (.getfield 30, 33, 5, 1, []) := rfl
theorem kc2_33 : zt_code 2 33 = some (.ifCond .ne 7, 36, 40, 0, []) := rfl
theorem kc2_36 : zt_code 2 36 = some (.aconst_null, 37, 0, 0, []) := rfl
theorem kc2_37 : zt_code 2 37 = some (.goto 4, 40, 41, 0, []) := rfl
theorem kc2_40 : zt_code 2 40 = some (.aload_n 2, 41, 0, 0, []) := rfl
theorem kc2_41 : zt_code 2 41 = some (.areturn, 42, 0, 0, []) := rfl
theorem kc3_0 : zt_code 3 0 = some (.aload_n 0, 1, 0, 0, []) := rfl
theorem kc3_1 : zt_code 3 1 = some (.getfield 11, 4, 0, 0, []) := rfl
theorem kc3_4 : zt_code 3 4 = some (.astore_n 1, 5, 0, 0, []) := rfl
theorem kc3_5 : zt_code 3 5 = some (.aload_n 1, 6, 0, 0, []) := rfl
theorem kc3_6 : zt_code 3 6 = some (.arraylength, 7, 0, 0, []) := rfl
theorem kc3_7 : zt_code 3 7 = some (.istore_n 2, 8, 0, 0, []) := rfl
theorem kc3_8 : zt_code 3 8 = some (.iconst 0, 9, 0, 0, []) := rfl
theorem kc3_9 : zt_code 3 9 = some (.istore_n 3, 10, 0, 0, []) := rfl
theorem kc3_10 : zt_code 3 10 = some (.iload_n 3, 11, 0, 0, []) := rfl
theorem kc3_11 : zt_code 3 11 = some (.iload_n 2, 12, 0, 0, []) := rfl
theorem kc3_12 : zt_code 3 12 = some (.if_icmp .ge 30, 15, 42, 0, []) := rfl
theorem kc3_15 : zt_code 3 15 = some (.aload_n 1, 16, 0, 0, []) := rfl
theorem kc3_16 : zt_code 3 16 = some (.iload_n 3, 17, 0, 0, []) := rfl
theorem kc3_17 : zt_code 3 17 = some (.aaload, 18, 0, 0, []) := rfl
theorem kc3_18 : zt_code 3 18 = some (.astore 4, 20, 0, 0, []) := rfl
theorem kc3_20 : zt_code 3 20 = some (.aload 4, 22, 0, 0, []) := rfl
theorem kc3_22 : zt_code 3 22 = some (.ifnull 14, 25, 36, 0, []) := rfl
theorem kc3_25 : zt_code 3 25 = some (.aload 4, 27, 0, 0, []) := rfl
theorem kc3_27 : zt_code 3 27 = some (.getfield 30, 30, 5, 1, []) := rfl
theorem kc3_30 : zt_code 3 30 = some (.ifCond .ne 6, 33, 36, 0, []) := rfl
theorem kc3_33 : zt_code 3 33 = some (.aload 4, 35, 0, 0, []) := rfl
theorem kc3_35 : zt_code 3 35 = some (.areturn, 36, 0, 0, []) := rfl
theorem kc3_36 : zt_code 3 36 = some (.iinc 3 1, 39, 0, 0, []) := rfl
theorem kc3_39 : zt_code 3 39 = some (.goto (-29), 42, 10, 0, []) := rfl
theorem kc3_42 : zt_code 3 42 = some (.aconst_null, 43, 0, 0, []) := rfl
theorem kc3_43 : zt_code 3 43 = some (.areturn, 44, 0, 0, []) := rfl
theorem kc4_0 : zt_code 4 0 = some (.iconst 0, 1, 0, 0, []) := rfl
theorem kc4_1 : zt_code 4 1 = some (.istore_n 1, 2, 0, 0, []) := rfl
theorem kc4_2 : zt_code 4 2 = some (.aload_n 0, 3, 0, 0, []) := rfl
theorem kc4_3 : zt_code 4 3 = some (.getfield 11, 6, 0, 0, []) := rfl
theorem kc4_6 : zt_code 4 6 = some (.astore_n 2, 7, 0, 0, []) := rfl
theorem kc4_7 : zt_code 4 7 = some (.aload_n 2, 8, 0, 0, []) := rfl
theorem kc4_8 : zt_code 4 8 = some (.arraylength, 9, 0, 0, []) := rfl
theorem kc4_9 : zt_code 4 9 = some (.istore_n 3, 10, 0, 0, []) := rfl
theorem kc4_10 : zt_code 4 10 = some (.iconst 0, 11, 0, 0, []) := rfl
theorem kc4_11 : zt_code 4 11 = some (.istore 4, 13, 0, 0, []) := rfl
theorem kc4_13 : zt_code 4 13 = some (.iload 4, 15, 0, 0, []) := rfl
theorem kc4_15 : zt_code 4 15 = some (.iload_n 3, 16, 0, 0, []) := rfl
theorem kc4_16 : zt_code 4 16 = some (.if_icmp .ge 31, 19, 47, 0, []) := rfl
theorem kc4_19 : zt_code 4 19 = some (.aload_n 2, 20, 0, 0, []) := rfl
theorem kc4_20 : zt_code 4 20 = some (.iload 4, 22, 0, 0, []) := rfl
theorem kc4_22 : zt_code 4 22 = some (.aaload, 23, 0, 0, []) := rfl
theorem kc4_23 : zt_code 4 23 = some (.astore 5, 25, 0, 0, []) := rfl
theorem kc4_25 : zt_code 4 25 = some (.aload 5, 27, 0, 0, []) := rfl
theorem kc4_27 : zt_code 4 27 = some (.ifnull 14, 30, 41, 0, []) := rfl
theorem kc4_30 : zt_code 4 30 = some (.aload 5, 32, 0, 0, []) := rfl
theorem kc4_32 : zt_code 4 32 = some (.getfield 30, 35, 5, 1, []) := rfl
theorem kc4_35 : zt_code 4 35 = some (.ifCond .eq 6, 38, 41, 0, []) := rfl
theorem kc4_38 : zt_code 4 38 = some (.iinc 1 1, 41, 0, 0, []) := rfl
theorem kc4_41 : zt_code 4 41 = some (.iinc 4 1, 44, 0, 0, []) := rfl
theorem kc4_44 : zt_code 4 44 = some (.goto (-31), 47, 13, 0, []) := rfl
theorem kc4_47 : zt_code 4 47 = some (.iload_n 1, 48, 0, 0, []) := rfl
theorem kc4_48 : zt_code 4 48 = some (.ireturn, 49, 0, 0, []) := rfl
theorem kc5_0 : zt_code 5 0 = some (.iconst 0, 1, 0, 0, []) := rfl
theorem kc5_1 : zt_code 5 1 = some (.istore_n 1, 2, 0, 0, []) := rfl
theorem kc5_2 : zt_code 5 2 = some (.aload_n 0, 3, 0, 0, []) := rfl
theorem kc5_3 : zt_code 5 3 = some (.getfield 11, 6, 0, 0, []) := rfl
theorem kc5_6 : zt_code 5 6 = some (.astore_n 2, 7, 0, 0, []) := rfl
theorem kc5_7 : zt_code 5 7 = some (.aload_n 2, 8, 0, 0, []) := rfl
theorem kc5_8 : zt_code 5 8 = some (.arraylength, 9, 0, 0, []) := rfl
theorem kc5_9 : zt_code 5 9 = some (.istore_n 3, 10, 0, 0, []) := rfl
theorem kc5_10 : zt_code 5 10 = some (.iconst 0, 11, 0, 0, []) := rfl
theorem kc5_11 : zt_code 5 11 = some (.istore 4, 13, 0, 0, []) := rfl
theorem kc5_13 : zt_code 5 13 = some (.iload 4, 15, 0, 0, []) := rfl
theorem kc5_15 : zt_code 5 15 = some (.iload_n 3, 16, 0, 0, []) := rfl
theorem kc5_16 : zt_code 5 16 = some (.if_icmp .ge 28, 19, 44, 0, []) := rfl
theorem kc5_19 : zt_code 5 19 = some (.aload_n 2, 20, 0, 0, []) := rfl
theorem kc5_20 : zt_code 5 20 = some (.iload 4, 22, 0, 0, []) := rfl
theorem kc5_22 : zt_code 5 22 = some (.aaload, 23, 0, 0, []) := rfl
theorem kc5_23 : zt_code 5 23 = some (.astore 5, 25, 0, 0, []) := rfl
theorem kc5_25 : zt_code 5 25 = some (.aload 5, 27, 0, 0, []) := rfl
theorem kc5_27 : zt_code 5 27 = some (.ifnull 11, 30, 38, 0, []) := rfl
theorem kc5_30 : zt_code 5 30 = some (.iload_n 1, 31, 0, 0, []) := rfl
theorem kc5_31 : zt_code 5 31 = some (.aload 5, 33, 0, 0, []) := rfl
theorem kc5_33 : zt_code 5 33 = some (.invokevirtual 34, 36, 30, 0, []) := rfl
theorem kc5_36 : zt_code 5 36 = some (.iadd, 37, 0, 0, []) := rfl
theorem kc5_37 : zt_code 5 37 = some (.istore_n 1, 38, 0, 0, []) := rfl
theorem kc5_38 : zt_code 5 38 = some (.iinc 4 1, 41, 0, 0, []) := rfl
theorem kc5_41 : zt_code 5 41 = some (.goto (-28), 44, 13, 0, []) := rfl
theorem kc5_44 : zt_code 5 44 = some (.iload_n 1, 45, 0, 0, []) := rfl
theorem kc5_45 : zt_code 5 45 = some (.ireturn, 46, 0, 0, []) := rfl
theorem kc6_0 : zt_code 6 0 = some (.iconst 0, 1, 0, 0, []) := rfl
theorem kc6_1 : zt_code 6 1 = some (.istore_n 2, 2, 0, 0, []) := rfl
theorem kc6_2 : zt_code 6 2 = some (.aload_n 0, 3, 0, 0, []) := rfl
theorem kc6_3 : zt_code 6 3 = some (.getfield 11, 6, 0, 0, []) := rfl
theorem kc6_6 : zt_code 6 6 = some (.astore_n 3, 7, 0, 0, []) := rfl
theorem kc6_7 : zt_code 6 7 = some (.aload_n 3, 8, 0, 0, []) := rfl
theorem kc6_8 : zt_code 6 8 = some (.arraylength, 9, 0, 0, []) := rfl
theorem kc6_9 : zt_code 6 9 = some (.istore 4, 11, 0, 0, []) := rfl
theorem kc6_11 : zt_code 6 11 = some (.iconst 0, 12, 0, 0, []) := rfl
theorem kc6_12 : zt_code 6 12 = some (.istore 5, 14, 0, 0, []) := rfl
theorem kc6_14 : zt_code 6 14 = some (.iload 5, 16, 0, 0, []) := rfl
theorem kc6_16 : zt_code 6 16 = some (.iload 4, 18, 0, 0, []) := rfl
theorem kc6_18 : zt_code 6 18 = some (.if_icmp .ge 41, 21, 59, 0, []) := rfl
theorem kc6_21 : zt_code 6 21 = some (.aload_n 3, 22, 0, 0, []) := rfl
theorem kc6_22 : zt_code 6 22 = some (.iload 5, 24, 0, 0, []) := rfl
theorem kc6_24 : zt_code 6 24 = some (.aaload, 25, 0, 0, []) := rfl
theorem kc6_25 : zt_code 6 25 = some (.astore 6, 27, 0, 0, []) := rfl
theorem kc6_27 : zt_code 6 27 = some (.aload 6, 29, 0, 0, []) := rfl
theorem kc6_29 : zt_code 6 29 = some (.ifnull 24, 32, 53, 0, []) := rfl
theorem kc6_32 : zt_code 6 32 = some (.aload 6, 34, 0, 0, []) := rfl
theorem kc6_34 : zt_code 6 34 = some (.aload_n 0, 35, 0, 0, []) := rfl
theorem kc6_35 : zt_code 6 35 = some (.getfield 20, 38, 0, 1, []) := rfl
theorem kc6_38 : zt_code 6 38 = some (.if_acmp .eq 15, 41, 53, 0, []) := rfl
theorem kc6_41 : zt_code 6 41 = some (.aload 6, 43, 0, 0, []) := rfl
theorem kc6_43 : zt_code 6 43 = some (.getfield 27, 46, 5, 6, []) := rfl
theorem kc6_46 : zt_code 6 46 = some (.aload_n 1, 47, 0, 0, []) := rfl
theorem kc6_47 : zt_code 6 47 = some (.if_acmp .ne 6, 50, 53, 0, []) := rfl
theorem kc6_50 : zt_code 6 50 = some (.iinc 2 1, 53, 0, 0, []) := rfl
theorem kc6_53 : zt_code 6 53 = some (.iinc 5 1, 56, 0, 0, []) := rfl
theorem kc6_56 : zt_code 6 56 = some (.goto (-42), 59, 14, 0, []) := rfl
theorem kc6_59 : zt_code 6 59 = some (.iload_n 2, 60, 0, 0, []) := rfl
theorem kc6_60 : zt_code 6 60 = some (.ireturn, 61, 0, 0, []) := rfl
theorem kc7_0 : zt_code 7 0 = some (.aload_n 0, 1, 0, 0, []) := rfl
theorem kc7_1 : zt_code 7 1 = some (.invokespecial 3, 4, 1000, 0, []) := rfl
theorem kc7_4 : zt_code 7 4 = some (.return_, 5, 0, 0, []) := rfl
theorem kc8_0 : zt_code 8 0 = some (.aload_n 0, 1, 0, 0, []) := rfl
theorem kc8_1 : zt_code 8 1 = some (.getfield 9, 4, 1, 2, []) := rfl
theorem kc8_4 : zt_code 8 4 = some (.ifnonnull 12, 7, 16, 0, []) := rfl
theorem kc8_7 : zt_code 8 7 = some (.aload_n 0, 8, 0, 0, []) := rfl
theorem kc8_8 : zt_code 8 8 = some (.sipush 255, 11, 0, 0, []) := rfl
theorem kc8_11 : zt_code 8 11 = some (.newarray .byte, 13, 100, 0, []) := rfl
theorem kc8_13 : zt_code 8 13 = some (.putfield 9, 16, 1, 2, []) := rfl
theorem kc8_16 : zt_code 8 16 = some (.aload_n 0, 17, 0, 0, []) := rfl
theorem kc8_17 : zt_code 8 17 = some (.aload_n 1, 18, 0, 0, []) := rfl
theorem kc8_18 : zt_code 8 18 = some (.iload_n 2, 19, 0, 0, []) := rfl
theorem kc8_19 : zt_code 8 19 = some (.iload_n 3, 20, 0, 0, []) := rfl
theorem kc8_20 : zt_code 8 20 = some (.aload_n 0, 21, 0, 0, []) := rfl
theorem kc8_21 : zt_code 8 21 = some (.getfield 9, 24, 1, 2, []) := rfl
theorem kc8_24 : zt_code 8 24 = some (.invokestatic 15, 27, 72, 4, []) := rfl
theorem kc8_27 : zt_code 8 27 = some (.putfield 19, 30, 1, 3, []) := rfl
theorem kc8_30 : zt_code 8 30 = some (.return_, 31, 0, 0, []) := rfl
theorem kc9_0 : zt_code 9 0 = some (.aload_n 0, 1, 0, 0, []) := rfl
theorem kc9_1 : zt_code 9 1 = some (.getfield 9, 4, 1, 2, []) := rfl
theorem kc9_4 : zt_code 9 4 = some (.ifnull 36, 7, 40, 0, []) := rfl
theorem kc9_7 : zt_code 9 7 = some (.aload_n 1, 8, 0, 0, []) := rfl
theorem kc9_8 : zt_code 9 8 = some (.ifnull 32, 11, 40, 0, []) := rfl
theorem kc9_11 : zt_code 9 11 = some (.iload_n 3, 12, 0, 0, []) := rfl
theorem kc9_12 : zt_code 9 12 = some (.aload_n 0, 13, 0, 0, []) := rfl
theorem kc9_13 : zt_code 9 13 = some (.getfield 19, 16, 1, 3, []) := rfl
theorem kc9_16 : zt_code 9 16 = some (.if_icmp .ne 24, 19, 40, 0, []) := rfl
theorem kc9_19 : zt_code 9 19 = some (.iload_n 3, 20, 0, 0, []) := rfl
theorem kc9_20 : zt_code 9 20 = some (.aload_n 0, 21, 0, 0, []) := rfl
theorem kc9_21 : zt_code 9 21 = some (.getfield 9, 24, 1, 2, []) := rfl
theorem kc9_24 : zt_code 9 24 = some (.arraylength, 25, 0, 0, []) := rfl
theorem kc9_25 : zt_code 9 25 = some (.if_icmp .gt 15, 28, 40, 0, []) := rfl
theorem kc9_28 : zt_code 9 28 = some (.iload_n 2, 29, 0, 0, []) := rfl
theorem kc9_29 : zt_code 9 29 = some (.ifCond .lt 11, 32, 40, 0, []) := rfl
theorem kc9_32 : zt_code 9 32 = some (.iload_n 3, 33, 0, 0, []) := rfl
theorem kc9_33 : zt_code 9 33 = some (.aload_n 1, 34, 0, 0, []) := rfl
theorem kc9_34 : zt_code 9 34 = some (.arraylength, 35, 0, 0, []) := rfl
theorem kc9_35 : zt_code 9 35 = some (.iload_n 2, 36, 0, 0, []) := rfl
theorem kc9_36 : zt_code 9 36 = some (.isub, 37, 0, 0, []) := rfl
theorem kc9_37 : zt_code 9 37 = some (.if_icmp .le 5, 40, 42, 0, []) := rfl
theorem kc9_40 : zt_code 9 40 = some (.iconst 0, 41, 0, 0, []) := rfl
theorem kc9_41 : zt_code 9 41 = some (.ireturn, 42, 0, 0, []) := rfl
theorem kc9_42 : zt_code 9 42 = some (.iconst 0, 43, 0, 0, []) := rfl
theorem kc9_43 : zt_code 9 43 = some (.istore 4, 45, 0, 0, []) := rfl
theorem kc9_45 : zt_code 9 45 = some (.iload 4, 47, 0, 0, []) := rfl
theorem kc9_47 : zt_code 9 47 = some (.iload_n 3, 48, 0, 0, []) := rfl
theorem kc9_48 : zt_code 9 48 = some (.if_icmp .ge 27, 51, 75, 0, []) := rfl
theorem kc9_51 : zt_code 9 51 = some (.aload_n 0, 52, 0, 0, []) := rfl
theorem kc9_52 : zt_code 9 52 = some (.getfield 9, 55, 1, 2, []) := rfl
theorem kc9_55 : zt_code 9 55 = some (.iload 4, 57, 0, 0, []) := rfl
theorem kc9_57 : zt_code 9 57 = some (.baload, 58, 0, 0, []) := rfl
theorem kc9_58 : zt_code 9 58 = some (.aload_n 1, 59, 0, 0, []) := rfl
theorem kc9_59 : zt_code 9 59 = some (.iload_n 2, 60, 0, 0, []) := rfl
theorem kc9_60 : zt_code 9 60 = some (.iload 4, 62, 0, 0, []) := rfl
theorem kc9_62 : zt_code 9 62 = some (.iadd, 63, 0, 0, []) := rfl
theorem kc9_63 : zt_code 9 63 = some (.baload, 64, 0, 0, []) := rfl
theorem kc9_64 : zt_code 9 64 = some (.if_icmp .eq 5, 67, 69, 0, []) := rfl
theorem kc9_67 : zt_code 9 67 = some (.iconst 0, 68, 0, 0, []) := rfl
theorem kc9_68 : zt_code 9 68 = some (.ireturn, 69, 0, 0, []) := rfl
theorem kc9_69 : zt_code 9 69 = some (.iinc 4 1, 72, 0, 0, []) := rfl
theorem kc9_72 : zt_code 9 72 = some (.goto (-27), 75, 45, 0, []) := rfl
theorem kc9_75 : zt_code 9 75 = some (.iconst 1, 76, 0, 0, []) := rfl
theorem kc9_76 : zt_code 9 76 = some (.ireturn, 77, 0, 0, []) := rfl
theorem kc10_0 : zt_code 10 0 = some (.aload_n 0, 1, 0, 0, []) := rfl
theorem kc10_1 : zt_code 10 1 = some (.invokespecial 3, 4, 1000, 0, []) := rfl
theorem kc10_4 : zt_code 10 4 = some (.aload_n 0, 5, 0, 0, []) := rfl
theorem kc10_5 : zt_code 10 5 = some (.bipush 60, 7, 0, 0, []) := rfl
theorem kc10_7 : zt_code 10 7 = some (.anewarray 9, 10, 201, 0, []) := rfl
theorem kc10_10 : zt_code 10 10 = some (.putfield 11, 13, 2, 0, []) := rfl
theorem kc10_13 : zt_code 10 13 = some (.iconst 0, 14, 0, 0, []) := rfl
theorem kc10_14 : zt_code 10 14 = some (.istore_n 1, 15, 0, 0, []) := rfl
theorem kc10_15 : zt_code 10 15 = some (.iload_n 1, 16, 0, 0, []) := rfl
theorem kc10_16 : zt_code 10 16 = some (.aload_n 0, 17, 0, 0, []) := rfl
theorem kc10_17 : zt_code 10 17 = some (.getfield 11, 20, 2, 0, []) := rfl
theorem kc10_20 : zt_code 10 20 = some (.arraylength, 21, 0, 0, []) := rfl
theorem kc10_21 : zt_code 10 21 = some (.if_icmp .ge 22, 24, 43, 0, []) := rfl
theorem kc10_24 : zt_code 10 24 = some (.aload_n 0, 25, 0, 0, []) := rfl
theorem kc10_25 : zt_code 10 25 = some (.getfield 11, 28, 2, 0, []) := rfl
theorem kc10_28 : zt_code 10 28 = some (.iload_n 1, 29, 0, 0, []) := rfl
theorem kc10_29 : zt_code 10 29 = some (.new 9, 32, 1, 4, []) := rfl
theorem kc10_32 : zt_code 10 32 = some (.dup, 33, 0, 0, []) := rfl
theorem kc10_33 : zt_code 10 33 = some (.invokespecial 17, 36, 7, 0, []) := rfl
theorem kc10_36 : zt_code 10 36 = some (.aastore, 37, 0, 0, []) := rfl
theorem kc10_37 : zt_code 10 37 = some (.iinc 1 1, 40, 0, 0, []) := rfl
theorem kc10_40 : zt_code 10 40 = some (.goto (-25), 43, 15, 0, []) := rfl
theorem kc10_43 : zt_code 10 43 = some (.return_, 44, 0, 0, []) := rfl
theorem kc11_0 : zt_code 11 0 = some (.iconst 0, 1, 0, 0, []) := rfl
theorem kc11_1 : zt_code 11 1 = some (.istore 5, 3, 0, 0, []) := rfl
theorem kc11_3 : zt_code 11 3 = some (.iload 5, 5, 0, 0, []) := rfl
theorem kc11_5 : zt_code 11 5 = some (.aload_n 0, 6, 0, 0, []) := rfl
theorem kc11_6 : zt_code 11 6 = some (.getfield 18, 9, 2, 1, []) := rfl
theorem kc11_9 : zt_code 11 9 = some (.if_icmp .ge 57, 12, 66, 0, []) := rfl
theorem kc11_12 : zt_code 11 12 = some (.iload 5, 14, 0, 0, []) := rfl
theorem kc11_14 : zt_code 11 14 = some (.aload_n 0, 15, 0, 0, []) := rfl
theorem kc11_15 : zt_code 11 15 = some (.getfield 11, 18, 2, 0, []) := rfl
theorem kc11_18 : zt_code 11 18 = some (.arraylength, 19, 0, 0, []) := rfl
theorem kc11_19 : zt_code 11 19 = some (.if_icmp .ge 47, 22, 66, 0, []) := rfl
theorem kc11_22 : zt_code 11 22 = some (.aload_n 0, 23, 0, 0, []) := rfl
theorem kc11_23 : zt_code 11 23 = some (.getfield 11, 26, 2, 0, []) := rfl
theorem kc11_26 : zt_code 11 26 = some (.iload 5, 28, 0, 0, []) := rfl
theorem kc11_28 : zt_code 11 28 = some (.aaload, 29, 0, 0, []) := rfl
theorem kc11_29 : zt_code 11 29 = some (.astore 6, 31, 0, 0, []) := rfl
theorem kc11_31 : zt_code 11 31 = some (.aload 6, 33, 0, 0, []) := rfl
theorem kc11_33 : zt_code 11 33 = some (.ifnull 27, 36, 60, 0, []) := rfl
theorem kc11_36 : zt_code 11 36 = some (.aload 6, 38, 0, 0, []) := rfl
theorem kc11_38 : zt_code 11 38 = some (.getfield 22, 41, 1, 0, []) := rfl
theorem kc11_41 : zt_code 11 41 = some (.aload_n 1, 42, 0, 0, []) := rfl
theorem kc11_42 : zt_code 11 42 = some (.if_acmp .ne 18, 45, 60, 0, []) := rfl
theorem kc11_45 : zt_code 11 45 = some (.aload 6, 47, 0, 0, []) := rfl
theorem kc11_47 : zt_code 11 47 = some (.aload_n 2, 48, 0, 0, []) := rfl
theorem kc11_48 : zt_code 11 48 = some (.iload_n 3, 49, 0, 0, []) := rfl
theorem kc11_49 : zt_code 11 49 = some (.iload 4, 51, 0, 0, []) := rfl
theorem kc11_51 : zt_code 11 51 = some (.invokevirtual 26, 54, 9, 3, []) := rfl
theorem kc11_54 : zt_code 11 54 = some (.ifCond .eq 6, 57, 60, 0, []) := rfl
theorem kc11_57 : zt_code 11 57 = some (.aload 6, 59, 0, 0, []) := rfl
theorem kc11_59 : zt_code 11 59 = some (.areturn, 60, 0, 0, []) := rfl
theorem kc11_60 : zt_code 11 60 = some (.iinc 5 1, 63, 0, 0, []) := rfl
theorem kc11_63 : zt_code 11 63 = some (.goto (-60), 66, 3, 0, []) := rfl
theorem kc11_66 : zt_code 11 66 = some (.aconst_null, 67, 0, 0, []) := rfl
theorem kc11_67 : zt_code 11 67 = some (.areturn, 68, 0, 0, []) := rfl
theorem kc12_0 : zt_code 12 0 = some (.aload_n 0, 1, 0, 0, []) := rfl
theorem kc12_1 : zt_code 12 1 = some (.getfield 18, 4, 2, 1, []) := rfl
theorem kc12_4 : zt_code 12 4 = some (.ifCond .lt 15, 7, 19, 0, []) := rfl
theorem kc12_7 : zt_code 12 7 = some (.aload_n 0, 8, 0, 0, []) := rfl
theorem kc12_8 : zt_code 12 8 = some (.getfield 18, 11, 2, 1, []) := rfl
theorem kc12_11 : zt_code 12 11 = some (.aload_n 0, 12, 0, 0, []) := rfl
theorem kc12_12 : zt_code 12 12 = some (.getfield 11, 15, 2, 0, []) := rfl
theorem kc12_15 : zt_code 12 15 = some (.arraylength, 16, 0, 0, []) := rfl
theorem kc12_16 : zt_code 12 16 = some (.if_icmp .lt 4, 19, 20, 0, []) := rfl
theorem kc12_19 : zt_code 12 19 = some (.return_, 20, 0, 0, []) := rfl
theorem kc12_20 : zt_code 12 20 = some (.aload_n 0, 21, 0, 0, []) := rfl
theorem kc12_21 : zt_code 12 21 = some (.getfield 11, 24, 2, 0, []) := rfl
theorem kc12_24 : zt_code 12 24 = some (.aload_n 0, 25, 0, 0, []) := rfl
theorem kc12_25 : zt_code 12 25 = some (.getfield 18, 28, 2, 1, []) := rfl
theorem kc12_28 : zt_code 12 28 = some (.aaload, 29, 0, 0, []) := rfl
theorem kc12_29 : zt_code 12 29 = some (.astore_n 3, 30, 0, 0, []) := rfl
theorem kc12_30 : zt_code 12 30 = some (.aload_n 2, 31, 0, 0, []) := rfl
theorem kc12_31 : zt_code 12 31 = some (.getfield 30, 34, 6, 8, []) := rfl
theorem kc12_34 : zt_code 12 34 = some (.astore 4, 36, 0, 0, []) := rfl
theorem kc12_36 : zt_code 12 36 = some (.aload_n 3, 37, 0, 0, []) := rfl
theorem kc12_37 : zt_code 12 37 = some (.ifnull 8, 40, 45, 0, []) := rfl
theorem kc12_40 : zt_code 12 40 = some (.aload 4, 42, 0, 0, []) := rfl
theorem kc12_42 : zt_code 12 42 = some (.ifnonnull 4, 45, 46, 0, []) := rfl
theorem kc12_45 : zt_code 12 45 = some (.return_, 46, 0, 0, []) := rfl
theorem kc12_46 : zt_code 12 46 = some (.aload_n 0, 47, 0, 0, []) := rfl
theorem kc12_47 : zt_code 12 47 = some (.dup, 48, 0, 0, []) := rfl
theorem kc12_48 : zt_code 12 48 = some (.getfield 18, 51, 2, 1, []) := rfl
theorem kc12_51 : zt_code 12 51 = some (.iconst 1, 52, 0, 0, []) := rfl
theorem kc12_52 : zt_code 12 52 = some (.iadd, 53, 0, 0, []) := rfl
theorem kc12_53 : zt_code 12 53 = some (.putfield 18, 56, 2, 1, []) := rfl
theorem kc12_56 : zt_code 12 56 = some (.aload_n 3, 57, 0, 0, []) := rfl
theorem kc12_57 : zt_code 12 57 = some (.aload_n 2, 58, 0, 0, []) := rfl
theorem kc12_58 : zt_code 12 58 = some (.getfield 33, 61, 6, 5, []) := rfl
theorem kc12_61 : zt_code 12 61 = some (.aload_n 2, 62, 0, 0, []) := rfl
theorem kc12_62 : zt_code 12 62 = some (.getfield 37, 65, 6, 6, []) := rfl
theorem kc12_65 : zt_code 12 65 = some (.aload_n 2, 66, 0, 0, []) := rfl
theorem kc12_66 : zt_code 12 66 = some (.getfield 40, 69, 6, 7, []) := rfl
theorem kc12_69 : zt_code 12 69 = some (.invokevirtual 43, 72, 8, 3, []) := rfl
theorem kc12_72 : zt_code 12 72 = some (.aload_n 3, 73, 0, 0, []) := rfl
theorem kc12_73 : zt_code 12 73 = some (.aload 4, 75, 0, 0, []) := rfl
theorem kc12_75 : zt_code 12 75 = some (.putfield 22, 78, 1, 0, []) := rfl
theorem kc12_78 : zt_code 12 78 = some (.aload_n 3, 79, 0, 0, []) := rfl
theorem kc12_79 : zt_code 12 79 = some (.aload_n 1, 80, 0, 0, []) := rfl
theorem kc12_80 : zt_code 12 80 = some (.putfield 47, 83, 1, 1, []) := rfl
theorem kc12_83 : zt_code 12 83 = some (.aload 4, 85, 0, 0, []) := rfl
theorem kc12_85 : zt_code 12 85 = some (.dup, 86, 0, 0, []) := rfl
theorem kc12_86 : zt_code 12 86 = some (.getfield 50, 89, 5, 4, []) := rfl
theorem kc12_89 : zt_code 12 89 = some (.iconst 1, 90, 0, 0, []) := rfl
theorem kc12_90 : zt_code 12 90 = some (.iadd, 91, 0, 0, []) := rfl
theorem kc12_91 : zt_code 12 91 = some (.putfield 50, 94, 5, 4, []) := rfl
theorem kc12_94 : zt_code 12 94 = some (.aload 4, 96, 0, 0, []) := rfl
theorem kc12_96 : zt_code 12 96 = some (.aload 4, 98, 0, 0, []) := rfl
theorem kc12_98 : zt_code 12 98 = some (.getfield 55, 101, 5, 5, []) := rfl
theorem kc12_101 : zt_code 12 101 = some (.aload 4, 103, 0, 0, []) := rfl
theorem kc12_103 : zt_code 12 103 = some (.getfield 50, 106, 5, 4, []) := rfl
theorem kc12_106 : zt_code 12 106 = some (.invokestatic 58, 109, 1001, 0, []) := rfl
theorem kc12_109 : zt_code 12 109 = some (.putfield 55, 112, 5, 5, []) := rfl
theorem kc12_112 : zt_code 12 112 = some (.aload_n 1, 113, 0, 0, []) := rfl
theorem kc12_113 : zt_code 12 113 = some (.dup, 114, 0, 0, []) := rfl
theorem kc12_114 : zt_code 12 114 = some (.getfield 64, 117, 5, 2, []) := rfl
theorem kc12_117 : zt_code 12 117 = some (.iconst 1, 118, 0, 0, []) := rfl
theorem kc12_118 : zt_code 12 118 = some (.iadd, 119, 0, 0, []) := rfl
theorem kc12_119 : zt_code 12 119 = some (.putfield 64, 122, 5, 2, []) := rfl
theorem kc12_122 : zt_code 12 122 = some (.aload_n 1, 123, 0, 0, []) := rfl
theorem kc12_123 : zt_code 12 123 = some (.getfield 67, 126, 5, 1, []) := rfl
theorem kc12_126 : zt_code 12 126 = some (.iconst 2, 127, 0, 0, []) := rfl
theorem kc12_127 : zt_code 12 127 = some (.if_icmp .ne 9, 130, 136, 0, []) := rfl
theorem kc12_130 : zt_code 12 130 = some (.aload_n 1, 131, 0, 0, []) := rfl
theorem kc12_131 : zt_code 12 131 = some (.aload 4, 133, 0, 0, []) := rfl
theorem kc12_133 : zt_code 12 133 = some (.putfield 70, 136, 5, 6, []) := rfl
theorem kc12_136 : zt_code 12 136 = some (.return_, 137, 0, 0, []) := rfl
theorem kc13_0 : zt_code 13 0 = some (.aload_n 0, 1, 0, 0, []) := rfl
theorem kc13_1 : zt_code 13 1 = some (.getfield 18, 4, 2, 1, []) := rfl
theorem kc13_4 : zt_code 13 4 = some (.iconst 1, 5, 0, 0, []) := rfl
theorem kc13_5 : zt_code 13 5 = some (.isub, 6, 0, 0, []) := rfl
theorem kc13_6 : zt_code 13 6 = some (.istore_n 2, 7, 0, 0, []) := rfl
theorem kc13_7 : zt_code 13 7 = some (.iconst 0, 8, 0, 0, []) := rfl
theorem kc13_8 : zt_code 13 8 = some (.istore_n 3, 9, 0, 0, []) := rfl
theorem kc13_9 : zt_code 13 9 = some (.iload_n 3, 10, 0, 0, []) := rfl
theorem kc13_10 : zt_code 13 10 = some (.iload_n 2, 11, 0, 0, []) := rfl
theorem kc13_11 : zt_code 13 11 = some (.if_icmp .gt 57, 14, 68, 0, []) := rfl
theorem kc13_14 : zt_code 13 14 = some (.iload_n 2, 15, 0, 0, []) := rfl
theorem kc13_15 : zt_code 13 15 = some (.aload_n 0, 16, 0, 0, []) := rfl
theorem kc13_16 : zt_code 13 16 = some (.getfield 11, 19, 2, 0, []) := rfl
theorem kc13_19 : zt_code 13 19 = some (.arraylength, 20, 0, 0, []) := rfl
theorem kc13_20 : zt_code 13 20 = some (.if_icmp .ge 48, 23, 68, 0, []) := rfl
theorem kc13_23 : zt_code 13 23 = some (.aload_n 0, 24, 0, 0, []) := rfl
theorem kc13_24 : zt_code 13 24 = some (.getfield 11, 27, 2, 0, []) := rfl
theorem kc13_27 : zt_code 13 27 = some (.iload_n 3, 28, 0, 0, []) := rfl
theorem kc13_28 : zt_code 13 28 = some (.aaload, 29, 0, 0, []) := rfl
theorem kc13_29 : zt_code 13 29 = some (.aload_n 1, 30, 0, 0, []) := rfl
theorem kc13_30 : zt_code 13 30 = some (.if_acmp .ne 32, 33, 62, 0, []) := rfl
theorem kc13_33 : zt_code 13 33 = some (.aload_n 0, 34, 0, 0, []) := rfl
theorem kc13_34 : zt_code 13 34 = some (.getfield 11, 37, 2, 0, []) := rfl
theorem kc13_37 : zt_code 13 37 = some (.iload_n 3, 38, 0, 0, []) := rfl
theorem kc13_38 : zt_code 13 38 = some (.aload_n 0, 39, 0, 0, []) := rfl
theorem kc13_39 : zt_code 13 39 = some (.getfield 11, 42, 2, 0, []) := rfl
theorem kc13_42 : zt_code 13 42 = some (.iload_n 2, 43, 0, 0, []) := rfl
theorem kc13_43 : zt_code 13 43 = some (.aaload, 44, 0, 0, []) := rfl
theorem kc13_44 : zt_code 13 44 = some (.aastore, 45, 0, 0, []) := rfl
theorem kc13_45 : zt_code 13 45 = some (.aload_n 0, 46, 0, 0, []) := rfl
theorem kc13_46 : zt_code 13 46 = some (.getfield 11, 49, 2, 0, []) := rfl
theorem kc13_49 : zt_code 13 49 = some (.iload_n 2, 50, 0, 0, []) := rfl
theorem kc13_50 : zt_code 13 50 = some (.aload_n 1, 51, 0, 0, []) := rfl
theorem kc13_51 : zt_code 13 51 = some (.aastore, 52, 0, 0, []) := rfl
theorem kc13_52 : zt_code 13 52 = some (.aload_n 0, 53, 0, 0, []) := rfl
theorem kc13_53 : zt_code 13 53 = some (.iload_n 2, 54, 0, 0, []) := rfl
theorem kc13_54 : zt_code 13 54 = some (.putfield 18, 57, 2, 1, []) := rfl
theorem kc13_57 : zt_code 13 57 = some (.aload_n 1, 58, 0, 0, []) := rfl
theorem kc13_58 : zt_code 13 58 = some (.invokestatic 73, 61, 14, 1, []) := rfl
theorem kc13_61 : zt_code 13 61 = some (.return_, 62, 0, 0, []) := rfl
theorem kc13_62 : zt_code 13 62 = some (.iinc 3 1, 65, 0, 0, []) := rfl
theorem kc13_65 : zt_code 13 65 = some (.goto (-56), 68, 9, 0, []) := rfl
theorem kc13_68 : zt_code 13 68 = some (.return_, 69, 0, 0, []) := rfl
theorem kc14_0 : zt_code 14 0 = some (.aload_n 0, 1, 0, 0, []) := rfl
theorem kc14_1 : zt_code 14 1 = some (.ifnonnull 4, 4, 5, 0, []) := rfl
theorem kc14_4 : zt_code 14 4 = some (.return_, 5, 0, 0, []) := rfl
theorem kc14_5 : zt_code 14 5 = some (.aload_n 0, 6, 0, 0, []) := rfl
theorem kc14_6 : zt_code 14 6 = some (.getfield 22, 9, 1, 0, []) := rfl
theorem kc14_9 : zt_code 14 9 = some (.ifnull 16, 12, 25, 0, []) := rfl
theorem kc14_12 : zt_code 14 12 = some (.aload_n 0, 13, 0, 0, []) := rfl
theorem kc14_13 : zt_code 14 13 = some (.getfield 22, 16, 1, 0, []) := rfl
theorem kc14_16 : zt_code 14 16 = some (.dup, 17, 0, 0, []) := rfl
theorem kc14_17 : zt_code 14 17 = some (.getfield 50, 20, 5, 4, []) := rfl
theorem kc14_20 : zt_code 14 20 = some (.iconst 1, 21, 0, 0, []) := rfl
theorem kc14_21 : zt_code 14 21 = some (.isub, 22, 0, 0, []) := rfl
theorem kc14_22 : zt_code 14 22 = some (.putfield 50, 25, 5, 4, []) := rfl
theorem kc14_25 : zt_code 14 25 = some (.aload_n 0, 26, 0, 0, []) := rfl
theorem kc14_26 : zt_code 14 26 = some (.getfield 47, 29, 1, 1, []) := rfl
theorem kc14_29 : zt_code 14 29 = some (.ifnull 16, 32, 45, 0, []) := rfl
theorem kc14_32 : zt_code 14 32 = some (.aload_n 0, 33, 0, 0, []) := rfl
theorem kc14_33 : zt_code 14 33 = some (.getfield 47, 36, 1, 1, []) := rfl
theorem kc14_36 : zt_code 14 36 = some (.dup, 37, 0, 0, []) := rfl
theorem kc14_37 : zt_code 14 37 = some (.getfield 64, 40, 5, 2, []) := rfl
theorem kc14_40 : zt_code 14 40 = some (.iconst 1, 41, 0, 0, []) := rfl
theorem kc14_41 : zt_code 14 41 = some (.isub, 42, 0, 0, []) := rfl
theorem kc14_42 : zt_code 14 42 = some (.putfield 64, 45, 5, 2, []) := rfl
theorem kc14_45 : zt_code 14 45 = some (.aload_n 0, 46, 0, 0, []) := rfl
theorem kc14_46 : zt_code 14 46 = some (.aconst_null, 47, 0, 0, []) := rfl
theorem kc14_47 : zt_code 14 47 = some (.putfield 22, 50, 1, 0, []) := rfl
theorem kc14_50 : zt_code 14 50 = some (.aload_n 0, 51, 0, 0, []) := rfl
theorem kc14_51 : zt_code 14 51 = some (.aconst_null, 52, 0, 0, []) := rfl
theorem kc14_52 : zt_code 14 52 = some (.putfield 47, 55, 1, 1, []) := rfl
theorem kc14_55 : zt_code 14 55 = some (.return_, 56, 0, 0, []) := rfl
theorem kc15_0 : zt_code 15 0 = some (.aload_n 0, 1, 0, 0, []) := rfl
theorem kc15_1 : zt_code 15 1 = some (.invokespecial 3, 4, 1000, 0, []) := rfl
theorem kc15_4 : zt_code 15 4 = some (.return_, 5, 0, 0, []) := rfl
theorem kc16_0 : zt_code 16 0 = some (.aload_n 0, 1, 0, 0, []) := rfl
theorem kc16_1 : zt_code 16 1 = some (.getfield 9, 4, 3, 1, []) := rfl
theorem kc16_4 : zt_code 16 4 = some (.aload_n 0, 5, 0, 0, []) := rfl
theorem kc16_5 : zt_code 16 5 = some (.getfield 15, 8, 3, 2, []) := rfl
theorem kc16_8 : zt_code 16 8 = some (.if_icmp .ge 82, 11, 90, 0, []) := rfl
theorem kc16_11 : zt_code 16 11 = some (.aload_n 0, 12, 0, 0, []) := rfl
theorem kc16_12 : zt_code 16 12 = some (.aload_n 0, 13, 0, 0, []) := rfl
theorem kc16_13 : zt_code 16 13 = some (.getfield 9, 16, 3, 1, []) := rfl
theorem kc16_16 : zt_code 16 16 = some (.bipush 47, 18, 0, 0, []) := rfl
theorem kc16_18 : zt_code 16 18 = some (.invokevirtual 18, 21, 18, 2, []) := rfl
theorem kc16_21 : zt_code 16 21 = some (.ifCond .ne 44, 24, 65, 0, []) := rfl
theorem kc16_24 : zt_code 16 24 = some (.aload_n 0, 25, 0, 0, []) := rfl
theorem kc16_25 : zt_code 16 25 = some (.aload_n 0, 26, 0, 0, []) := rfl
theorem kc16_26 : zt_code 16 26 = some (.getfield 9, 29, 3, 1, []) := rfl
theorem kc16_29 : zt_code 16 29 = some (.bipush 46, 31, 0, 0, []) := rfl
theorem kc16_31 : zt_code 16 31 = some (.invokevirtual 18, 34, 18, 2, []) := rfl
theorem kc16_34 : zt_code 16 34 = some (.ifCond .eq 35, 37, 69, 0, []) := rfl
theorem kc16_37 : zt_code 16 37 = some (.aload_n 0, 38, 0, 0, []) := rfl
theorem kc16_38 : zt_code 16 38 = some (.getfield 9, 41, 3, 1, []) := rfl
theorem kc16_41 : zt_code 16 41 = some (.iconst 1, 42, 0, 0, []) := rfl
theorem kc16_42 : zt_code 16 42 = some (.iadd, 43, 0, 0, []) := rfl
theorem kc16_43 : zt_code 16 43 = some (.aload_n 0, 44, 0, 0, []) := rfl
theorem kc16_44 : zt_code 16 44 = some (.getfield 15, 47, 3, 2, []) := rfl
theorem kc16_47 : zt_code 16 47 = some (.if_icmp .ge 18, 50, 65, 0, []) := rfl
theorem kc16_50 : zt_code 16 50 = some (.aload_n 0, 51, 0, 0, []) := rfl
theorem kc16_51 : zt_code 16 51 = some (.aload_n 0, 52, 0, 0, []) := rfl
theorem kc16_52 : zt_code 16 52 = some (.getfield 9, 55, 3, 1, []) := rfl
theorem kc16_55 : zt_code 16 55 = some (.iconst 1, 56, 0, 0, []) := rfl
theorem kc16_56 : zt_code 16 56 = some (.iadd, 57, 0, 0, []) := rfl
theorem kc16_57 : zt_code 16 57 = some (.bipush 47, 59, 0, 0, []) := rfl
theorem kc16_59 : zt_code 16 59 = some (.invokevirtual 18, 62, 18, 2, []) := rfl
theorem kc16_62 : zt_code 16 62 = some (.ifCond .eq 7, 65, 69, 0, []) := rfl
theorem kc16_65 : zt_code 16 65 = some (.iconst 1, 66, 0, 0, []) := rfl
theorem kc16_66 : zt_code 16 66 = some (.goto 4, 69, 70, 0, []) := rfl
theorem kc16_69 : zt_code 16 69 = some (.iconst 0, 70, 0, 0, []) := rfl
theorem kc16_70 : zt_code 16 70 = some (.istore_n 1, 71, 0, 0, []) := rfl
theorem kc16_71 : zt_code 16 71 = some (.iload_n 1, 72, 0, 0, []) := rfl
theorem kc16_72 : zt_code 16 72 = some (.ifCond .ne 5, 75, 77, 0, []) := rfl
theorem kc16_75 : zt_code 16 75 = some (.iconst 1, 76, 0, 0, []) := rfl
theorem kc16_76 : zt_code 16 76 = some (.ireturn, 77, 0, 0, []) := rfl
theorem kc16_77 : zt_code 16 77 = some (.aload_n 0, 78, 0, 0, []) := rfl
theorem kc16_78 : zt_code 16 78 = some (.dup, 79, 0, 0, []) := rfl
theorem kc16_79 : zt_code 16 79 = some (.getfield 9, 82, 3, 1, []) := rfl
theorem kc16_82 : zt_code 16 82 = some (.iconst 1, 83, 0, 0, []) := rfl
theorem kc16_83 : zt_code 16 83 = some (.iadd, 84, 0, 0, []) := rfl
theorem kc16_84 : zt_code 16 84 = some (.putfield 9, 87, 3, 1, []) := rfl
theorem kc16_87 : zt_code 16 87 = some (.goto (-87), 90, 0, 0, []) := rfl
theorem kc16_90 : zt_code 16 90 = some (.iconst 0, 91, 0, 0, []) := rfl
theorem kc16_91 : zt_code 16 91 = some (.ireturn, 92, 0, 0, []) := rfl
theorem kc17_0 : zt_code 17 0 = some (.aload_n 0, 1, 0, 0, []) := rfl
theorem kc17_1 : zt_code 17 1 = some (.getfield 9, 4, 3, 1, []) := rfl
theorem kc17_4 : zt_code 17 4 = some (.aload_n 0, 5, 0, 0, []) := rfl
theorem kc17_5 : zt_code 17 5 = some (.getfield 15, 8, 3, 2, []) := rfl
theorem kc17_8 : zt_code 17 8 = some (.if_icmp .ge 29, 11, 37, 0, []) := rfl
theorem kc17_11 : zt_code 17 11 = some (.aload_n 0, 12, 0, 0, []) := rfl
theorem kc17_12 : zt_code 17 12 = some (.aload_n 0, 13, 0, 0, []) := rfl
theorem kc17_13 : zt_code 17 13 = some (.getfield 9, 16, 3, 1, []) := rfl
theorem kc17_16 : zt_code 17 16 = some (.bipush 47, 18, 0, 0, []) := rfl
theorem kc17_18 : zt_code 17 18 = some (.invokevirtual 18, 21, 18, 2, []) := rfl
theorem kc17_21 : zt_code 17 21 = some (.ifCond .ne 16, 24, 37, 0, []) := rfl
theorem kc17_24 : zt_code 17 24 = some (.aload_n 0, 25, 0, 0, []) := rfl
theorem kc17_25 : zt_code 17 25 = some (.dup, 26, 0, 0, []) := rfl
theorem kc17_26 : zt_code 17 26 = some (.getfield 9, 29, 3, 1, []) := rfl
theorem kc17_29 : zt_code 17 29 = some (.iconst 1, 30, 0, 0, []) := rfl
theorem kc17_30 : zt_code 17 30 = some (.iadd, 31, 0, 0, []) := rfl
theorem kc17_31 : zt_code 17 31 = some (.putfield 9, 34, 3, 1, []) := rfl
theorem kc17_34 : zt_code 17 34 = some (.goto (-34), 37, 0, 0, []) := rfl
theorem kc17_37 : zt_code 17 37 = some (.aload_n 0, 38, 0, 0, []) := rfl
theorem kc17_38 : zt_code 17 38 = some (.getfield 9, 41, 3, 1, []) := rfl
theorem kc17_41 : zt_code 17 41 = some (.ireturn, 42, 0, 0, []) := rfl
theorem kc18_0 : zt_code 18 0 = some (.aload_n 0, 1, 0, 0, []) := rfl
theorem kc18_1 : zt_code 18 1 = some (.getfield 22, 4, 3, 0, []) := rfl
theorem kc18_4 : zt_code 18 4 = some (.ifnull 30, 7, 34, 0, []) := rfl
theorem kc18_7 : zt_code 18 7 = some (.iload_n 1, 8, 0, 0, []) := rfl
theorem kc18_8 : zt_code 18 8 = some (.ifCond .lt 26, 11, 34, 0, []) := rfl
theorem kc18_11 : zt_code 18 11 = some (.iload_n 1, 12, 0, 0, []) := rfl
theorem kc18_12 : zt_code 18 12 = some (.aload_n 0, 13, 0, 0, []) := rfl
theorem kc18_13 : zt_code 18 13 = some (.getfield 22, 16, 3, 0, []) := rfl
theorem kc18_16 : zt_code 18 16 = some (.arraylength, 17, 0, 0, []) := rfl
theorem kc18_17 : zt_code 18 17 = some (.if_icmp .ge 17, 20, 34, 0, []) := rfl
theorem kc18_20 : zt_code 18 20 = some (.aload_n 0, 21, 0, 0, []) := rfl
theorem kc18_21 : zt_code 18 21 = some (.getfield 22, 24, 3, 0, []) := rfl
theorem kc18_24 : zt_code 18 24 = some (.iload_n 1, 25, 0, 0, []) := rfl
theorem kc18_25 : zt_code 18 25 = some (.baload, 26, 0, 0, []) := rfl
theorem kc18_26 : zt_code 18 26 = some (.iload_n 2, 27, 0, 0, []) := rfl
theorem kc18_27 : zt_code 18 27 = some (.if_icmp .ne 7, 30, 34, 0, []) := rfl
theorem kc18_30 : zt_code 18 30 = some (.iconst 1, 31, 0, 0, []) := rfl
theorem kc18_31 : zt_code 18 31 = some (.goto 4, 34, 35, 0, []) := rfl
theorem kc18_34 : zt_code 18 34 = some (.iconst 0, 35, 0, 0, []) := rfl
theorem kc18_35 : zt_code 18 35 = some (.ireturn, 36, 0, 0, []) := rfl
theorem kc19_0 : zt_code 19 0 = some (.aload_n 0, 1, 0, 0, []) := rfl
theorem kc19_1 : zt_code 19 1 = some (.invokespecial 3, 4, 1000, 0, []) := rfl
theorem kc19_4 : zt_code 19 4 = some (.aload_n 0, 5, 0, 0, []) := rfl
theorem kc19_5 : zt_code 19 5 = some (.sipush 1200, 8, 0, 0, []) := rfl
theorem kc19_8 : zt_code 19 8 = some (.newarray .byte, 10, 100, 0, []) := rfl
theorem kc19_10 : zt_code 19 10 = some (.putfield 9, 13, 4, 0, []) := rfl
theorem kc19_13 : zt_code 19 13 = some (.return_, 14, 0, 0, []) := rfl
theorem kc20_0 : zt_code 20 0 = some (.iload_n 1, 1, 0, 0, []) := rfl
theorem kc20_1 : zt_code 20 1 = some (.sipush 1200, 4, 0, 0, []) := rfl
theorem kc20_4 : zt_code 20 4 = some (.aload_n 0, 5, 0, 0, []) := rfl
theorem kc20_5 : zt_code 20 5 = some (.getfield 15, 8, 4, 1, []) := rfl
theorem kc20_8 : zt_code 20 8 = some (.isub, 9, 0, 0, []) := rfl
theorem kc20_9 : zt_code 20 9 = some (.if_icmp .gt 7, 12, 16, 0, []) := rfl
theorem kc20_12 : zt_code 20 12 = some (.iconst 1, 13, 0, 0, []) := rfl
theorem kc20_13 : zt_code 20 13 = some (.goto 4, 16, 17, 0, []) := rfl
theorem kc20_16 : zt_code 20 16 = some (.iconst 0, 17, 0, 0, []) := rfl
theorem kc20_17 : zt_code 20 17 = some (.ireturn, 18, 0, 0, []) := rfl
theorem kc21_0 : zt_code 21 0 = some (.aload_n 0, 1, 0, 0, []) := rfl
theorem kc21_1 : zt_code 21 1 = some (.getfield 15, 4, 4, 1, []) := rfl
theorem kc21_4 : zt_code 21 4 = some (.ifCond .lt 35, 7, 39, 0, []) := rfl
theorem kc21_7 : zt_code 21 7 = some (.aload_n 0, 8, 0, 0, []) := rfl
theorem kc21_8 : zt_code 21 8 = some (.getfield 15, 11, 4, 1, []) := rfl
theorem kc21_11 : zt_code 21 11 = some (.aload_n 0, 12, 0, 0, []) := rfl
theorem kc21_12 : zt_code 21 12 = some (.getfield 9, 15, 4, 0, []) := rfl
theorem kc21_15 : zt_code 21 15 = some (.arraylength, 16, 0, 0, []) := rfl
theorem kc21_16 : zt_code 21 16 = some (.if_icmp .ge 23, 19, 39, 0, []) := rfl
theorem kc21_19 : zt_code 21 19 = some (.aload_n 0, 20, 0, 0, []) := rfl
theorem kc21_20 : zt_code 21 20 = some (.getfield 9, 23, 4, 0, []) := rfl
theorem kc21_23 : zt_code 21 23 = some (.aload_n 0, 24, 0, 0, []) := rfl
theorem kc21_24 : zt_code 21 24 = some (.getfield 15, 27, 4, 1, []) := rfl
theorem kc21_27 : zt_code 21 27 = some (.iload_n 1, 28, 0, 0, []) := rfl
theorem kc21_28 : zt_code 21 28 = some (.bastore, 29, 0, 0, []) := rfl
theorem kc21_29 : zt_code 21 29 = some (.aload_n 0, 30, 0, 0, []) := rfl
theorem kc21_30 : zt_code 21 30 = some (.dup, 31, 0, 0, []) := rfl
theorem kc21_31 : zt_code 21 31 = some (.getfield 15, 34, 4, 1, []) := rfl
theorem kc21_34 : zt_code 21 34 = some (.iconst 1, 35, 0, 0, []) := rfl
theorem kc21_35 : zt_code 21 35 = some (.iadd, 36, 0, 0, []) := rfl
theorem kc21_36 : zt_code 21 36 = some (.putfield 15, 39, 4, 1, []) := rfl
theorem kc21_39 : zt_code 21 39 = some (.return_, 40, 0, 0, []) := rfl
theorem kc22_0 : zt_code 22 0 = some (.aload_n 0, 1, 0, 0, []) := rfl
theorem kc22_1 : zt_code 22 1 = some (.getfield 15, 4, 4, 1, []) := rfl
theorem kc22_4 : zt_code 22 4 = some (.istore_n 1, 5, 0, 0, []) := rfl
theorem kc22_5 : zt_code 22 5 = some (.aload_n 0, 6, 0, 0, []) := rfl
theorem kc22_6 : zt_code 22 6 = some (.iconst 0, 7, 0, 0, []) := rfl
theorem kc22_7 : zt_code 22 7 = some (.putfield 15, 10, 4, 1, []) := rfl
theorem kc22_10 : zt_code 22 10 = some (.iload_n 1, 11, 0, 0, []) := rfl
theorem kc22_11 : zt_code 22 11 = some (.ireturn, 12, 0, 0, []) := rfl
theorem kc23_0 : zt_code 23 0 = some (.aload_n 0, 1, 0, 0, []) := rfl
theorem kc23_1 : zt_code 23 1 = some (.iconst 0, 2, 0, 0, []) := rfl
theorem kc23_2 : zt_code 23 2 = some (.iload_n 1, 3, 0, 0, []) := rfl
theorem kc23_3 : zt_code 23 3 = some (.invokevirtual 19, 6, 25, 2, []) := rfl
theorem kc23_6 : zt_code 23 6 = some (.ifCond .lt 7, 9, 13, 0, []) := rfl
theorem kc23_9 : zt_code 23 9 = some (.iconst 1, 10, 0, 0, []) := rfl
theorem kc23_10 : zt_code 23 10 = some (.goto 4, 13, 14, 0, []) := rfl
theorem kc23_13 : zt_code 23 13 = some (.iconst 0, 14, 0, 0, []) := rfl
theorem kc23_14 : zt_code 23 14 = some (.ireturn, 15, 0, 0, []) := rfl
theorem kc24_0 : zt_code 24 0 = some (.aload_n 0, 1, 0, 0, []) := rfl
theorem kc24_1 : zt_code 24 1 = some (.iconst 0, 2, 0, 0, []) := rfl
theorem kc24_2 : zt_code 24 2 = some (.iload_n 1, 3, 0, 0, []) := rfl
theorem kc24_3 : zt_code 24 3 = some (.invokevirtual 19, 6, 25, 2, []) := rfl
theorem kc24_6 : zt_code 24 6 = some (.istore_n 2, 7, 0, 0, []) := rfl
theorem kc24_7 : zt_code 24 7 = some (.iload_n 2, 8, 0, 0, []) := rfl
theorem kc24_8 : zt_code 24 8 = some (.ifCond .lt 18, 11, 26, 0, []) := rfl
theorem kc24_11 : zt_code 24 11 = some (.aload_n 0, 12, 0, 0, []) := rfl
theorem kc24_12 : zt_code 24 12 = some (.iload_n 2, 13, 0, 0, []) := rfl
theorem kc24_13 : zt_code 24 13 = some (.iconst 1, 14, 0, 0, []) := rfl
theorem kc24_14 : zt_code 24 14 = some (.iadd, 15, 0, 0, []) := rfl
theorem kc24_15 : zt_code 24 15 = some (.iload_n 1, 16, 0, 0, []) := rfl
theorem kc24_16 : zt_code 24 16 = some (.invokevirtual 19, 19, 25, 2, []) := rfl
theorem kc24_19 : zt_code 24 19 = some (.ifCond .ge 7, 22, 26, 0, []) := rfl
theorem kc24_22 : zt_code 24 22 = some (.iload_n 2, 23, 0, 0, []) := rfl
theorem kc24_23 : zt_code 24 23 = some (.goto 4, 26, 27, 0, []) := rfl
theorem kc24_26 : zt_code 24 26 = some (.iconst (-1), 27, 0, 0, []) := rfl
theorem kc24_27 : zt_code 24 27 = some (.ireturn, 28, 0, 0, []) := rfl
theorem kc25_0 : zt_code 25 0 = some (.iload_n 1, 1, 0, 0, []) := rfl
theorem kc25_1 : zt_code 25 1 = some (.istore_n 3, 2, 0, 0, []) := rfl
theorem kc25_2 : zt_code 25 2 = some (.iload_n 3, 3, 0, 0, []) := rfl
theorem kc25_3 : zt_code 25 3 = some (.ifCond .lt 34, 6, 37, 0, []) := rfl
theorem kc25_6 : zt_code 25 6 = some (.iload_n 3, 7, 0, 0, []) := rfl
theorem kc25_7 : zt_code 25 7 = some (.iload_n 2, 8, 0, 0, []) := rfl
theorem kc25_8 : zt_code 25 8 = some (.if_icmp .ge 29, 11, 37, 0, []) := rfl
theorem kc25_11 : zt_code 25 11 = some (.iload_n 3, 12, 0, 0, []) := rfl
theorem kc25_12 : zt_code 25 12 = some (.aload_n 0, 13, 0, 0, []) := rfl
theorem kc25_13 : zt_code 25 13 = some (.getfield 9, 16, 4, 0, []) := rfl
theorem kc25_16 : zt_code 25 16 = some (.arraylength, 17, 0, 0, []) := rfl
theorem kc25_17 : zt_code 25 17 = some (.if_icmp .ge 20, 20, 37, 0, []) := rfl
theorem kc25_20 : zt_code 25 20 = some (.aload_n 0, 21, 0, 0, []) := rfl
theorem kc25_21 : zt_code 25 21 = some (.getfield 9, 24, 4, 0, []) := rfl
theorem kc25_24 : zt_code 25 24 = some (.iload_n 3, 25, 0, 0, []) := rfl
theorem kc25_25 : zt_code 25 25 = some (.baload, 26, 0, 0, []) := rfl
theorem kc25_26 : zt_code 25 26 = some (.ifCond .ne 5, 29, 31, 0, []) := rfl
theorem kc25_29 : zt_code 25 29 = some (.iload_n 3, 30, 0, 0, []) := rfl
theorem kc25_30 : zt_code 25 30 = some (.ireturn, 31, 0, 0, []) := rfl
theorem kc25_31 : zt_code 25 31 = some (.iinc 3 1, 34, 0, 0, []) := rfl
theorem kc25_34 : zt_code 25 34 = some (.goto (-32), 37, 2, 0, []) := rfl
theorem kc25_37 : zt_code 25 37 = some (.iconst (-1), 38, 0, 0, []) := rfl
theorem kc25_38 : zt_code 25 38 = some (.ireturn, 39, 0, 0, []) := rfl
theorem kc26_0 : zt_code 26 0 = some (.aload_n 0, 1, 0, 0, []) := rfl
theorem kc26_1 : zt_code 26 1 = some (.invokespecial 3, 4, 1000, 0, []) := rfl
theorem kc26_4 : zt_code 26 4 = some (.aload_n 0, 5, 0, 0, []) := rfl
theorem kc26_5 : zt_code 26 5 = some (.iload_n 1, 6, 0, 0, []) := rfl
theorem kc26_6 : zt_code 26 6 = some (.putfield 9, 9, 5, 0, []) := rfl
theorem kc26_9 : zt_code 26 9 = some (.return_, 10, 0, 0, []) := rfl
theorem kc27_0 : zt_code 27 0 = some (.aload_n 0, 1, 0, 0, []) := rfl
theorem kc27_1 : zt_code 27 1 = some (.iload_n 1, 2, 0, 0, []) := rfl
theorem kc27_2 : zt_code 27 2 = some (.putfield 15, 5, 5, 1, []) := rfl
theorem kc27_5 : zt_code 27 5 = some (.aload_n 0, 6, 0, 0, []) := rfl
theorem kc27_6 : zt_code 27 6 = some (.iconst 0, 7, 0, 0, []) := rfl
theorem kc27_7 : zt_code 27 7 = some (.putfield 18, 10, 5, 2, []) := rfl
theorem kc27_10 : zt_code 27 10 = some (.aload_n 0, 11, 0, 0, []) := rfl
theorem kc27_11 : zt_code 27 11 = some (.iconst 0, 12, 0, 0, []) := rfl
theorem kc27_12 : zt_code 27 12 = some (.putfield 21, 15, 5, 3, []) := rfl
theorem kc27_15 : zt_code 27 15 = some (.aload_n 0, 16, 0, 0, []) := rfl
theorem kc27_16 : zt_code 27 16 = some (.iconst 0, 17, 0, 0, []) := rfl
theorem kc27_17 : zt_code 27 17 = some (.putfield 24, 20, 5, 4, []) := rfl
theorem kc27_20 : zt_code 27 20 = some (.aload_n 0, 21, 0, 0, []) := rfl
theorem kc27_21 : zt_code 27 21 = some (.iconst 0, 22, 0, 0, []) := rfl
theorem kc27_22 : zt_code 27 22 = some (.putfield 27, 25, 5, 5, []) := rfl
theorem kc27_25 : zt_code 27 25 = some (.aload_n 0, 26, 0, 0, []) := rfl
theorem kc27_26 : zt_code 27 26 = some (.aconst_null, 27, 0, 0, []) := rfl
theorem kc27_27 : zt_code 27 27 = some (.putfield 30, 30, 5, 6, []) := rfl
theorem kc27_30 : zt_code 27 30 = some (.aload_n 0, 31, 0, 0, []) := rfl
theorem kc27_31 : zt_code 27 31 = some (.iconst 0, 32, 0, 0, []) := rfl
theorem kc27_32 : zt_code 27 32 = some (.putfield 34, 35, 5, 8, []) := rfl
theorem kc27_35 : zt_code 27 35 = some (.return_, 36, 0, 0, []) := rfl
theorem kc28_0 : zt_code 28 0 = some (.aload_n 0, 1, 0, 0, []) := rfl
theorem kc28_1 : zt_code 28 1 = some (.getfield 37, 4, 5, 7, []) := rfl
theorem kc28_4 : zt_code 28 4 = some (.ifnonnull 12, 7, 16, 0, []) := rfl
theorem kc28_7 : zt_code 28 7 = some (.aload_n 0, 8, 0, 0, []) := rfl
theorem kc28_8 : zt_code 28 8 = some (.sipush 1000, 11, 0, 0, []) := rfl
theorem kc28_11 : zt_code 28 11 = some (.newarray .byte, 13, 100, 0, []) := rfl
theorem kc28_13 : zt_code 28 13 = some (.putfield 37, 16, 5, 7, []) := rfl
theorem kc28_16 : zt_code 28 16 = some (.aload_n 0, 17, 0, 0, []) := rfl
theorem kc28_17 : zt_code 28 17 = some (.aload_n 1, 18, 0, 0, []) := rfl
theorem kc28_18 : zt_code 28 18 = some (.iload_n 2, 19, 0, 0, []) := rfl
theorem kc28_19 : zt_code 28 19 = some (.iload_n 3, 20, 0, 0, []) := rfl
theorem kc28_20 : zt_code 28 20 = some (.aload_n 0, 21, 0, 0, []) := rfl
theorem kc28_21 : zt_code 28 21 = some (.getfield 37, 24, 5, 7, []) := rfl
theorem kc28_24 : zt_code 28 24 = some (.invokestatic 41, 27, 72, 4, []) := rfl
theorem kc28_27 : zt_code 28 27 = some (.putfield 34, 30, 5, 8, []) := rfl
theorem kc28_30 : zt_code 28 30 = some (.return_, 31, 0, 0, []) := rfl
theorem kc29_0 : zt_code 29 0 = some (.aload_n 0, 1, 0, 0, []) := rfl
theorem kc29_1 : zt_code 29 1 = some (.getfield 15, 4, 5, 1, []) := rfl
theorem kc29_4 : zt_code 29 4 = some (.iconst 3, 5, 0, 0, []) := rfl
theorem kc29_5 : zt_code 29 5 = some (.if_icmp .ne 31, 8, 36, 0, []) := rfl
theorem kc29_8 : zt_code 29 8 = some (.aload_n 0, 9, 0, 0, []) := rfl
theorem kc29_9 : zt_code 29 9 = some (.getfield 37, 12, 5, 7, []) := rfl
theorem kc29_12 : zt_code 29 12 = some (.ifnull 24, 15, 36, 0, []) := rfl
theorem kc29_15 : zt_code 29 15 = some (.iload_n 1, 16, 0, 0, []) := rfl
theorem kc29_16 : zt_code 29 16 = some (.ifCond .lt 20, 19, 36, 0, []) := rfl
theorem kc29_19 : zt_code 29 19 = some (.iload_n 1, 20, 0, 0, []) := rfl
theorem kc29_20 : zt_code 29 20 = some (.aload_n 0, 21, 0, 0, []) := rfl
theorem kc29_21 : zt_code 29 21 = some (.getfield 34, 24, 5, 8, []) := rfl
theorem kc29_24 : zt_code 29 24 = some (.if_icmp .ge 12, 27, 36, 0, []) := rfl
theorem kc29_27 : zt_code 29 27 = some (.iload_n 1, 28, 0, 0, []) := rfl
theorem kc29_28 : zt_code 29 28 = some (.aload_n 0, 29, 0, 0, []) := rfl
theorem kc29_29 : zt_code 29 29 = some (.getfield 37, 32, 5, 7, []) := rfl
theorem kc29_32 : zt_code 29 32 = some (.arraylength, 33, 0, 0, []) := rfl
theorem kc29_33 : zt_code 29 33 = some (.if_icmp .lt 5, 36, 38, 0, []) := rfl
theorem kc29_36 : zt_code 29 36 = some (.iconst (-1), 37, 0, 0, []) := rfl
theorem kc29_37 : zt_code 29 37 = some (.ireturn, 38, 0, 0, []) := rfl
theorem kc29_38 : zt_code 29 38 = some (.aload_n 0, 39, 0, 0, []) := rfl
theorem kc29_39 : zt_code 29 39 = some (.getfield 37, 42, 5, 7, []) := rfl
theorem kc29_42 : zt_code 29 42 = some (.iload_n 1, 43, 0, 0, []) := rfl
theorem kc29_43 : zt_code 29 43 = some (.baload, 44, 0, 0, []) := rfl
theorem kc29_44 : zt_code 29 44 = some (.sipush 255, 47, 0, 0, []) := rfl
theorem kc29_47 : zt_code 29 47 = some (.iand, 48, 0, 0, []) := rfl
theorem kc29_48 : zt_code 29 48 = some (.ireturn, 49, 0, 0, []) := rfl
theorem kc30_0 : zt_code 30 0 = some (.aload_n 0, 1, 0, 0, []) := rfl
theorem kc30_1 : zt_code 30 1 = some (.getfield 15, 4, 5, 1, []) := rfl
theorem kc30_4 : zt_code 30 4 = some (.tableswitch 46 1 3 #[28, 30, 38], 32, 50, 0, [(1, 32), (2, 34), (3, 42)]) := rfl
theorem kc30_32 : zt_code 30 32 = some (.iconst 1, 33, 0, 0, []) := rfl
theorem kc30_33 : zt_code 30 33 = some (.ireturn, 34, 0, 0, []) := rfl
theorem kc30_34 : zt_code 30 34 = some (.aload_n 0, 35, 0, 0, []) := rfl
theorem kc30_35 : zt_code 30 35 = some (.getfield 27, 38, 5, 5, []) := rfl
theorem kc30_38 : zt_code 30 38 = some (.invokestatic 45, 41, 71, 1, []) := rfl
theorem kc30_41 : zt_code 30 41 = some (.ireturn, 42, 0, 0, []) := rfl
theorem kc30_42 : zt_code 30 42 = some (.aload_n 0, 43, 0, 0, []) := rfl
theorem kc30_43 : zt_code 30 43 = some (.getfield 34, 46, 5, 8, []) := rfl
theorem kc30_46 : zt_code 30 46 = some (.invokestatic 49, 49, 70, 1, []) := rfl
theorem kc30_49 : zt_code 30 49 = some (.ireturn, 50, 0, 0, []) := rfl
theorem kc30_50 : zt_code 30 50 = some (.iconst 0, 51, 0, 0, []) := rfl
theorem kc30_51 : zt_code 30 51 = some (.ireturn, 52, 0, 0, []) := rfl
theorem kc31_0 : zt_code 31 0 = some (.aload_n 0, 1, 0, 0, []) := rfl
theorem kc31_1 : zt_code 31 1 = some (.getfield 27, 4, 5, 5, []) := rfl
theorem kc31_4 : zt_code 31 4 = some (.aload_n 0, 5, 0, 0, []) := rfl
theorem kc31_5 : zt_code 31 5 = some (.getfield 24, 8, 5, 4, []) := rfl
theorem kc31_8 : zt_code 31 8 = some (.iconst 1, 9, 0, 0, []) := rfl
theorem kc31_9 : zt_code 31 9 = some (.iadd, 10, 0, 0, []) := rfl
theorem kc31_10 : zt_code 31 10 = some (.invokestatic 52, 13, 1001, 0, []) := rfl
theorem kc31_13 : zt_code 31 13 = some (.invokestatic 45, 16, 71, 1, []) := rfl
theorem kc31_16 : zt_code 31 16 = some (.aload_n 0, 17, 0, 0, []) := rfl
theorem kc31_17 : zt_code 31 17 = some (.getfield 27, 20, 5, 5, []) := rfl
theorem kc31_20 : zt_code 31 20 = some (.invokestatic 45, 23, 71, 1, []) := rfl
theorem kc31_23 : zt_code 31 23 = some (.isub, 24, 0, 0, []) := rfl
theorem kc31_24 : zt_code 31 24 = some (.ireturn, 25, 0, 0, []) := rfl
theorem kc32_0 : zt_code 32 0 = some (.aload_n 0, 1, 0, 0, []) := rfl
theorem kc32_1 : zt_code 32 1 = some (.getfield 15, 4, 5, 1, []) := rfl
theorem kc32_4 : zt_code 32 4 = some (.tableswitch 43 1 3 #[28, 33, 38], 32, 47, 0, [(1, 32), (2, 37), (3, 42)]) := rfl
theorem kc32_32 : zt_code 32 32 = some (.aload_n 0, 33, 0, 0, []) := rfl
theorem kc32_33 : zt_code 32 33 = some (.getfield 21, 36, 5, 3, []) := rfl
theorem kc32_36 : zt_code 32 36 = some (.ireturn, 37, 0, 0, []) := rfl
theorem kc32_37 : zt_code 32 37 = some (.aload_n 0, 38, 0, 0, []) := rfl
theorem kc32_38 : zt_code 32 38 = some (.getfield 24, 41, 5, 4, []) := rfl
theorem kc32_41 : zt_code 32 41 = some (.ireturn, 42, 0, 0, []) := rfl
theorem kc32_42 : zt_code 32 42 = some (.aload_n 0, 43, 0, 0, []) := rfl
theorem kc32_43 : zt_code 32 43 = some (.getfield 34, 46, 5, 8, []) := rfl
theorem kc32_46 : zt_code 32 46 = some (.ireturn, 47, 0, 0, []) := rfl
theorem kc32_47 : zt_code 32 47 = some (.iconst 0, 48, 0, 0, []) := rfl
theorem kc32_48 : zt_code 32 48 = some (.ireturn, 49, 0, 0, []) := rfl
theorem kc33_0 : zt_code 33 0 = some (.aload_n 0, 1, 0, 0, []) := rfl
theorem kc33_1 : zt_code 33 1 = some (.getfield 18, 4, 5, 2, []) := rfl
theorem kc33_4 : zt_code 33 4 = some (.ifCond .ne 15, 7, 19, 0, []) := rfl
theorem kc33_7 : zt_code 33 7 = some (.aload_n 0, 8, 0, 0, []) := rfl
theorem kc33_8 : zt_code 33 8 = some (.getfield 21, 11, 5, 3, []) := rfl
theorem kc33_11 : zt_code 33 11 = some (.ifCond .ne 8, 14, 19, 0, []) := rfl
theorem kc33_14 : zt_code 33 14 = some (.aload_n 0, 15, 0, 0, []) := rfl
theorem kc33_15 : zt_code 33 15 = some (.iconst 0, 16, 0, 0, []) := rfl
theorem kc33_16 : zt_code 33 16 = some (.invokevirtual 58, 19, 27, 1, []) := rfl
theorem kc33_19 : zt_code 33 19 = some (.return_, 20, 0, 0, []) := rfl
theorem kc34_0 : zt_code 34 0 = some (.aload_n 0, 1, 0, 0, []) := rfl
theorem kc34_1 : zt_code 34 1 = some (.invokespecial 3, 4, 1000, 0, []) := rfl
theorem kc34_4 : zt_code 34 4 = some (.aload_n 0, 5, 0, 0, []) := rfl
theorem kc34_5 : zt_code 34 5 = some (.bipush 41, 7, 0, 0, []) := rfl
theorem kc34_7 : zt_code 34 7 = some (.anewarray 9, 10, 203, 0, []) := rfl
theorem kc34_10 : zt_code 34 10 = some (.putfield 11, 13, 6, 2, []) := rfl
theorem kc34_13 : zt_code 34 13 = some (.aload_n 0, 14, 0, 0, []) := rfl
theorem kc34_14 : zt_code 34 14 = some (.aload_n 1, 15, 0, 0, []) := rfl
theorem kc34_15 : zt_code 34 15 = some (.putfield 17, 18, 6, 0, []) := rfl
theorem kc34_18 : zt_code 34 18 = some (.aload_n 0, 19, 0, 0, []) := rfl
theorem kc34_19 : zt_code 34 19 = some (.aload_n 2, 20, 0, 0, []) := rfl
theorem kc34_20 : zt_code 34 20 = some (.putfield 21, 23, 6, 1, []) := rfl
theorem kc34_23 : zt_code 34 23 = some (.iconst 0, 24, 0, 0, []) := rfl
theorem kc34_24 : zt_code 34 24 = some (.istore_n 3, 25, 0, 0, []) := rfl
theorem kc34_25 : zt_code 34 25 = some (.iload_n 3, 26, 0, 0, []) := rfl
theorem kc34_26 : zt_code 34 26 = some (.aload_n 0, 27, 0, 0, []) := rfl
theorem kc34_27 : zt_code 34 27 = some (.getfield 11, 30, 6, 2, []) := rfl
theorem kc34_30 : zt_code 34 30 = some (.arraylength, 31, 0, 0, []) := rfl
theorem kc34_31 : zt_code 34 31 = some (.if_icmp .ge 22, 34, 53, 0, []) := rfl
theorem kc34_34 : zt_code 34 34 = some (.aload_n 0, 35, 0, 0, []) := rfl
theorem kc34_35 : zt_code 34 35 = some (.getfield 11, 38, 6, 2, []) := rfl
theorem kc34_38 : zt_code 34 38 = some (.iload_n 3, 39, 0, 0, []) := rfl
theorem kc34_39 : zt_code 34 39 = some (.new 9, 42, 3, 3, []) := rfl
theorem kc34_42 : zt_code 34 42 = some (.dup, 43, 0, 0, []) := rfl
theorem kc34_43 : zt_code 34 43 = some (.invokespecial 25, 46, 15, 0, []) := rfl
theorem kc34_46 : zt_code 34 46 = some (.aastore, 47, 0, 0, []) := rfl
theorem kc34_47 : zt_code 34 47 = some (.iinc 3 1, 50, 0, 0, []) := rfl
theorem kc34_50 : zt_code 34 50 = some (.goto (-25), 53, 25, 0, []) := rfl
theorem kc34_53 : zt_code 34 53 = some (.return_, 54, 0, 0, []) := rfl
theorem kc35_0 : zt_code 35 0 = some (.aload_n 0, 1, 0, 0, []) := rfl
theorem kc35_1 : zt_code 35 1 = some (.aload_n 1, 2, 0, 0, []) := rfl
theorem kc35_2 : zt_code 35 2 = some (.iload_n 2, 3, 0, 0, []) := rfl
theorem kc35_3 : zt_code 35 3 = some (.iload_n 3, 4, 0, 0, []) := rfl
theorem kc35_4 : zt_code 35 4 = some (.iconst 0, 5, 0, 0, []) := rfl
theorem kc35_5 : zt_code 35 5 = some (.invokevirtual 26, 8, 36, 4, []) := rfl
theorem kc35_8 : zt_code 35 8 = some (.istore 4, 10, 0, 0, []) := rfl
theorem kc35_10 : zt_code 35 10 = some (.iload 4, 12, 0, 0, []) := rfl
theorem kc35_12 : zt_code 35 12 = some (.ifCond .eq 6, 15, 18, 0, []) := rfl
theorem kc35_15 : zt_code 35 15 = some (.iload 4, 17, 0, 0, []) := rfl
theorem kc35_17 : zt_code 35 17 = some (.ireturn, 18, 0, 0, []) := rfl
theorem kc35_18 : zt_code 35 18 = some (.aload_n 0, 19, 0, 0, []) := rfl
theorem kc35_19 : zt_code 35 19 = some (.getfield 30, 22, 6, 7, []) := rfl
theorem kc35_22 : zt_code 35 22 = some (.ifCond .eq 10, 25, 32, 0, []) := rfl
theorem kc35_25 : zt_code 35 25 = some (.aload_n 0, 26, 0, 0, []) := rfl
theorem kc35_26 : zt_code 35 26 = some (.invokevirtual 34, 29, 44, 0, []) := rfl
theorem kc35_29 : zt_code 35 29 = some (.ifCond .eq 7, 32, 36, 0, []) := rfl
theorem kc35_32 : zt_code 35 32 = some (.iconst (-1), 33, 0, 0, []) := rfl
theorem kc35_33 : zt_code 35 33 = some (.goto 4, 36, 37, 0, []) := rfl
theorem kc35_36 : zt_code 35 36 = some (.iconst 0, 37, 0, 0, []) := rfl
theorem kc35_37 : zt_code 35 37 = some (.ireturn, 38, 0, 0, []) := rfl
theorem kc36_0 : zt_code 36 0 = some (.aload_n 0, 1, 0, 0, []) := rfl
theorem kc36_1 : zt_code 36 1 = some (.invokevirtual 38, 4, 37, 0, []) := rfl
theorem kc36_4 : zt_code 36 4 = some (.aload_n 0, 5, 0, 0, []) := rfl
theorem kc36_5 : zt_code 36 5 = some (.aload_n 1, 6, 0, 0, []) := rfl
theorem kc36_6 : zt_code 36 6 = some (.iload_n 2, 7, 0, 0, []) := rfl
theorem kc36_7 : zt_code 36 7 = some (.iload_n 3, 8, 0, 0, []) := rfl
theorem kc36_8 : zt_code 36 8 = some (.invokevirtual 41, 11, 38, 3, []) := rfl
theorem kc36_11 : zt_code 36 11 = some (.iconst 0, 12, 0, 0, []) := rfl
theorem kc36_12 : zt_code 36 12 = some (.istore 5, 14, 0, 0, []) := rfl
theorem kc36_14 : zt_code 36 14 = some (.iload 5, 16, 0, 0, []) := rfl
theorem kc36_16 : zt_code 36 16 = some (.ldc 45, 18, 0, 0, [(1000000, 0)]) := rfl
theorem kc36_18 : zt_code 36 18 = some (.if_icmp .ge 48, 21, 66, 0, []) := rfl
theorem kc36_21 : zt_code 36 21 = some (.aload_n 0, 22, 0, 0, []) := rfl
theorem kc36_22 : zt_code 36 22 = some (.invokevirtual 46, 25, 39, 0, []) := rfl
theorem kc36_25 : zt_code 36 25 = some (.ifCond .eq 41, 28, 66, 0, []) := rfl
theorem kc36_28 : zt_code 36 28 = some (.aload_n 0, 29, 0, 0, []) := rfl
theorem kc36_29 : zt_code 36 29 = some (.invokevirtual 49, 32, 41, 0, []) := rfl
theorem kc36_32 : zt_code 36 32 = some (.aload_n 0, 33, 0, 0, []) := rfl
theorem kc36_33 : zt_code 36 33 = some (.aload_n 0, 34, 0, 0, []) := rfl
theorem kc36_34 : zt_code 36 34 = some (.invokevirtual 46, 37, 39, 0, []) := rfl
theorem kc36_37 : zt_code 36 37 = some (.ifCond .ne 7, 40, 44, 0, []) := rfl
theorem kc36_40 : zt_code 36 40 = some (.iconst 1, 41, 0, 0, []) := rfl
theorem kc36_41 : zt_code 36 41 = some (.goto 4, 44, 45, 0, []) := rfl
theorem kc36_44 : zt_code 36 44 = some (.iconst 0, 45, 0, 0, []) := rfl
theorem kc36_45 : zt_code 36 45 = some (.iload 4, 47, 0, 0, []) := rfl
theorem kc36_47 : zt_code 36 47 = some (.invokevirtual 52, 50, 42, 2, []) := rfl
theorem kc36_50 : zt_code 36 50 = some (.istore 6, 52, 0, 0, []) := rfl
theorem kc36_52 : zt_code 36 52 = some (.iload 6, 54, 0, 0, []) := rfl
theorem kc36_54 : zt_code 36 54 = some (.ifCond .eq 6, 57, 60, 0, []) := rfl
theorem kc36_57 : zt_code 36 57 = some (.iload 6, 59, 0, 0, []) := rfl
theorem kc36_59 : zt_code 36 59 = some (.ireturn, 60, 0, 0, []) := rfl
theorem kc36_60 : zt_code 36 60 = some (.iinc 5 1, 63, 0, 0, []) := rfl
theorem kc36_63 : zt_code 36 63 = some (.goto (-49), 66, 14, 0, []) := rfl
theorem kc36_66 : zt_code 36 66 = some (.iconst 0, 67, 0, 0, []) := rfl
theorem kc36_67 : zt_code 36 67 = some (.ireturn, 68, 0, 0, []) := rfl
theorem kc37_0 : zt_code 37 0 = some (.aload_n 0, 1, 0, 0, []) := rfl
theorem kc37_1 : zt_code 37 1 = some (.iconst 0, 2, 0, 0, []) := rfl
theorem kc37_2 : zt_code 37 2 = some (.putfield 56, 5, 6, 3, []) := rfl
theorem kc37_5 : zt_code 37 5 = some (.aload_n 0, 6, 0, 0, []) := rfl
theorem kc37_6 : zt_code 37 6 = some (.iconst 0, 7, 0, 0, []) := rfl
theorem kc37_7 : zt_code 37 7 = some (.putfield 59, 10, 6, 4, []) := rfl
theorem kc37_10 : zt_code 37 10 = some (.aload_n 0, 11, 0, 0, []) := rfl
theorem kc37_11 : zt_code 37 11 = some (.aconst_null, 12, 0, 0, []) := rfl
theorem kc37_12 : zt_code 37 12 = some (.putfield 62, 15, 6, 5, []) := rfl
theorem kc37_15 : zt_code 37 15 = some (.aload_n 0, 16, 0, 0, []) := rfl
theorem kc37_16 : zt_code 37 16 = some (.iconst 0, 17, 0, 0, []) := rfl
theorem kc37_17 : zt_code 37 17 = some (.putfield 66, 20, 6, 6, []) := rfl
theorem kc37_20 : zt_code 37 20 = some (.aload_n 0, 21, 0, 0, []) := rfl
theorem kc37_21 : zt_code 37 21 = some (.iconst 0, 22, 0, 0, []) := rfl
theorem kc37_22 : zt_code 37 22 = some (.putfield 30, 25, 6, 7, []) := rfl
theorem kc37_25 : zt_code 37 25 = some (.aload_n 0, 26, 0, 0, []) := rfl
theorem kc37_26 : zt_code 37 26 = some (.aload_n 0, 27, 0, 0, []) := rfl
theorem kc37_27 : zt_code 37 27 = some (.getfield 17, 30, 6, 0, []) := rfl
theorem kc37_30 : zt_code 37 30 = some (.putfield 69, 33, 6, 8, []) := rfl
theorem kc37_33 : zt_code 37 33 = some (.aload_n 0, 34, 0, 0, []) := rfl
theorem kc37_34 : zt_code 37 34 = some (.aconst_null, 35, 0, 0, []) := rfl
theorem kc37_35 : zt_code 37 35 = some (.putfield 72, 38, 6, 9, []) := rfl
theorem kc37_38 : zt_code 37 38 = some (.aload_n 0, 39, 0, 0, []) := rfl
theorem kc37_39 : zt_code 37 39 = some (.aload_n 0, 40, 0, 0, []) := rfl
theorem kc37_40 : zt_code 37 40 = some (.getfield 17, 43, 6, 0, []) := rfl
theorem kc37_43 : zt_code 37 43 = some (.putfield 76, 46, 6, 10, []) := rfl
theorem kc37_46 : zt_code 37 46 = some (.return_, 47, 0, 0, []) := rfl
theorem kc38_0 : zt_code 38 0 = some (.aload_n 0, 1, 0, 0, []) := rfl
theorem kc38_1 : zt_code 38 1 = some (.getfield 56, 4, 6, 3, []) := rfl
theorem kc38_4 : zt_code 38 4 = some (.ifCond .lt 27, 7, 31, 0, []) := rfl
theorem kc38_7 : zt_code 38 7 = some (.aload_n 0, 8, 0, 0, []) := rfl
theorem kc38_8 : zt_code 38 8 = some (.getfield 56, 11, 6, 3, []) := rfl
theorem kc38_11 : zt_code 38 11 = some (.aload_n 0, 12, 0, 0, []) := rfl
theorem kc38_12 : zt_code 38 12 = some (.getfield 11, 15, 6, 2, []) := rfl
theorem kc38_15 : zt_code 38 15 = some (.arraylength, 16, 0, 0, []) := rfl
theorem kc38_16 : zt_code 38 16 = some (.if_icmp .ge 15, 19, 31, 0, []) := rfl
theorem kc38_19 : zt_code 38 19 = some (.aload_n 0, 20, 0, 0, []) := rfl
theorem kc38_20 : zt_code 38 20 = some (.getfield 11, 23, 6, 2, []) := rfl
theorem kc38_23 : zt_code 38 23 = some (.aload_n 0, 24, 0, 0, []) := rfl
theorem kc38_24 : zt_code 38 24 = some (.getfield 56, 27, 6, 3, []) := rfl
theorem kc38_27 : zt_code 38 27 = some (.aaload, 28, 0, 0, []) := rfl
theorem kc38_28 : zt_code 38 28 = some (.ifnonnull 4, 31, 32, 0, []) := rfl
theorem kc38_31 : zt_code 38 31 = some (.return_, 32, 0, 0, []) := rfl
theorem kc38_32 : zt_code 38 32 = some (.aload_n 0, 33, 0, 0, []) := rfl
theorem kc38_33 : zt_code 38 33 = some (.getfield 11, 36, 6, 2, []) := rfl
theorem kc38_36 : zt_code 38 36 = some (.aload_n 0, 37, 0, 0, []) := rfl
theorem kc38_37 : zt_code 38 37 = some (.getfield 56, 40, 6, 3, []) := rfl
theorem kc38_40 : zt_code 38 40 = some (.aaload, 41, 0, 0, []) := rfl
theorem kc38_41 : zt_code 38 41 = some (.astore 4, 43, 0, 0, []) := rfl
theorem kc38_43 : zt_code 38 43 = some (.aload 4, 45, 0, 0, []) := rfl
theorem kc38_45 : zt_code 38 45 = some (.aload_n 1, 46, 0, 0, []) := rfl
theorem kc38_46 : zt_code 38 46 = some (.putfield 79, 49, 3, 0, []) := rfl
theorem kc38_49 : zt_code 38 49 = some (.aload 4, 51, 0, 0, []) := rfl
theorem kc38_51 : zt_code 38 51 = some (.iload_n 2, 52, 0, 0, []) := rfl
theorem kc38_52 : zt_code 38 52 = some (.putfield 82, 55, 3, 1, []) := rfl
theorem kc38_55 : zt_code 38 55 = some (.aload 4, 57, 0, 0, []) := rfl
theorem kc38_57 : zt_code 38 57 = some (.iload_n 3, 58, 0, 0, []) := rfl
theorem kc38_58 : zt_code 38 58 = some (.putfield 85, 61, 3, 2, []) := rfl
theorem kc38_61 : zt_code 38 61 = some (.aload_n 0, 62, 0, 0, []) := rfl
theorem kc38_62 : zt_code 38 62 = some (.dup, 63, 0, 0, []) := rfl
theorem kc38_63 : zt_code 38 63 = some (.getfield 56, 66, 6, 3, []) := rfl
theorem kc38_66 : zt_code 38 66 = some (.iconst 1, 67, 0, 0, []) := rfl
theorem kc38_67 : zt_code 38 67 = some (.iadd, 68, 0, 0, []) := rfl
theorem kc38_68 : zt_code 38 68 = some (.putfield 56, 71, 6, 3, []) := rfl
theorem kc38_71 : zt_code 38 71 = some (.return_, 72, 0, 0, []) := rfl
theorem kc39_0 : zt_code 39 0 = some (.aload_n 0, 1, 0, 0, []) := rfl
theorem kc39_1 : zt_code 39 1 = some (.getfield 56, 4, 6, 3, []) := rfl
theorem kc39_4 : zt_code 39 4 = some (.ifCond .le 34, 7, 38, 0, []) := rfl
theorem kc39_7 : zt_code 39 7 = some (.aload_n 0, 8, 0, 0, []) := rfl
theorem kc39_8 : zt_code 39 8 = some (.invokevirtual 88, 11, 40, 0, []) := rfl
theorem kc39_11 : zt_code 39 11 = some (.astore_n 1, 12, 0, 0, []) := rfl
theorem kc39_12 : zt_code 39 12 = some (.aload_n 1, 13, 0, 0, []) := rfl
theorem kc39_13 : zt_code 39 13 = some (.ifnull 12, 16, 25, 0, []) := rfl
theorem kc39_16 : zt_code 39 16 = some (.aload_n 1, 17, 0, 0, []) := rfl
theorem kc39_17 : zt_code 39 17 = some (.invokevirtual 92, 20, 16, 0, []) := rfl
theorem kc39_20 : zt_code 39 20 = some (.ifCond .eq 5, 23, 25, 0, []) := rfl
theorem kc39_23 : zt_code 39 23 = some (.iconst 1, 24, 0, 0, []) := rfl
theorem kc39_24 : zt_code 39 24 = some (.ireturn, 25, 0, 0, []) := rfl
theorem kc39_25 : zt_code 39 25 = some (.aload_n 0, 26, 0, 0, []) := rfl
theorem kc39_26 : zt_code 39 26 = some (.dup, 27, 0, 0, []) := rfl
theorem kc39_27 : zt_code 39 27 = some (.getfield 56, 30, 6, 3, []) := rfl
theorem kc39_30 : zt_code 39 30 = some (.iconst 1, 31, 0, 0, []) := rfl
theorem kc39_31 : zt_code 39 31 = some (.isub, 32, 0, 0, []) := rfl
theorem kc39_32 : zt_code 39 32 = some (.putfield 56, 35, 6, 3, []) := rfl
theorem kc39_35 : zt_code 39 35 = some (.goto (-35), 38, 0, 0, []) := rfl
theorem kc39_38 : zt_code 39 38 = some (.iconst 0, 39, 0, 0, []) := rfl
theorem kc39_39 : zt_code 39 39 = some (.ireturn, 40, 0, 0, []) := rfl
theorem kc40_0 : zt_code 40 0 = some (.aload_n 0, 1, 0, 0, []) := rfl
theorem kc40_1 : zt_code 40 1 = some (.getfield 56, 4, 6, 3, []) := rfl
theorem kc40_4 : zt_code 40 4 = some (.ifCond .le 29, 7, 33, 0, []) := rfl
theorem kc40_7 : zt_code 40 7 = some (.aload_n 0, 8, 0, 0, []) := rfl
theorem kc40_8 : zt_code 40 8 = some (.getfield 56, 11, 6, 3, []) := rfl
theorem kc40_11 : zt_code 40 11 = some (.aload_n 0, 12, 0, 0, []) := rfl
theorem kc40_12 : zt_code 40 12 = some (.getfield 11, 15, 6, 2, []) := rfl
theorem kc40_15 : zt_code 40 15 = some (.arraylength, 16, 0, 0, []) := rfl
theorem kc40_16 : zt_code 40 16 = some (.if_icmp .gt 17, 19, 33, 0, []) := rfl
theorem kc40_19 : zt_code 40 19 = some (.aload_n 0, 20, 0, 0, []) := rfl
theorem kc40_20 : zt_code 40 20 = some (.getfield 11, 23, 6, 2, []) := rfl
theorem kc40_23 : zt_code 40 23 = some (.aload_n 0, 24, 0, 0, []) := rfl
theorem kc40_24 : zt_code 40 24 = some (.getfield 56, 27, 6, 3, []) := rfl
theorem kc40_27 : zt_code 40 27 = some (.iconst 1, 28, 0, 0, []) := rfl
theorem kc40_28 : zt_code 40 28 = some (.isub, 29, 0, 0, []) := rfl
theorem kc40_29 : zt_code 40 29 = some (.aaload, 30, 0, 0, []) := rfl
theorem kc40_30 : zt_code 40 30 = some (.goto 4, 33, 34, 0, []) := rfl
theorem kc40_33 : zt_code 40 33 = some (.aconst_null, 34, 0, 0, []) := rfl
theorem kc40_34 : zt_code 40 34 = some (.areturn, 35, 0, 0, []) := rfl
theorem kc41_0 : zt_code 41 0 = some (.aload_n 0, 1, 0, 0, []) := rfl
theorem kc41_1 : zt_code 41 1 = some (.invokevirtual 88, 4, 40, 0, []) := rfl
theorem kc41_4 : zt_code 41 4 = some (.astore_n 1, 5, 0, 0, []) := rfl
theorem kc41_5 : zt_code 41 5 = some (.aload_n 1, 6, 0, 0, []) := rfl
theorem kc41_6 : zt_code 41 6 = some (.ifnull 32, 9, 38, 0, []) := rfl
theorem kc41_9 : zt_code 41 9 = some (.aload_n 0, 10, 0, 0, []) := rfl
theorem kc41_10 : zt_code 41 10 = some (.aload_n 1, 11, 0, 0, []) := rfl
theorem kc41_11 : zt_code 41 11 = some (.getfield 79, 14, 3, 0, []) := rfl
theorem kc41_14 : zt_code 41 14 = some (.putfield 62, 17, 6, 5, []) := rfl
theorem kc41_17 : zt_code 41 17 = some (.aload_n 0, 18, 0, 0, []) := rfl
theorem kc41_18 : zt_code 41 18 = some (.aload_n 1, 19, 0, 0, []) := rfl
theorem kc41_19 : zt_code 41 19 = some (.getfield 82, 22, 3, 1, []) := rfl
theorem kc41_22 : zt_code 41 22 = some (.putfield 66, 25, 6, 6, []) := rfl
theorem kc41_25 : zt_code 41 25 = some (.aload_n 0, 26, 0, 0, []) := rfl
theorem kc41_26 : zt_code 41 26 = some (.aload_n 1, 27, 0, 0, []) := rfl
theorem kc41_27 : zt_code 41 27 = some (.invokevirtual 95, 30, 17, 0, []) := rfl
theorem kc41_30 : zt_code 41 30 = some (.aload_n 0, 31, 0, 0, []) := rfl
theorem kc41_31 : zt_code 41 31 = some (.getfield 66, 34, 6, 6, []) := rfl
theorem kc41_34 : zt_code 41 34 = some (.isub, 35, 0, 0, []) := rfl
theorem kc41_35 : zt_code 41 35 = some (.putfield 30, 38, 6, 7, []) := rfl
theorem kc41_38 : zt_code 41 38 = some (.return_, 39, 0, 0, []) := rfl
theorem kc42_0 : zt_code 42 0 = some (.aload_n 0, 1, 0, 0, []) := rfl
theorem kc42_1 : zt_code 42 1 = some (.getfield 30, 4, 6, 7, []) := rfl
theorem kc42_4 : zt_code 42 4 = some (.sipush 255, 7, 0, 0, []) := rfl
theorem kc42_7 : zt_code 42 7 = some (.if_icmp .le 6, 10, 13, 0, []) := rfl
theorem kc42_10 : zt_code 42 10 = some (.bipush (-9), 12, 0, 0, []) := rfl
theorem kc42_12 : zt_code 42 12 = some (.ireturn, 13, 0, 0, []) := rfl
theorem kc42_13 : zt_code 42 13 = some (.aload_n 0, 14, 0, 0, []) := rfl
theorem kc42_14 : zt_code 42 14 = some (.getfield 76, 17, 6, 10, []) := rfl
theorem kc42_17 : zt_code 42 17 = some (.ifnull 14, 20, 31, 0, []) := rfl
theorem kc42_20 : zt_code 42 20 = some (.aload_n 0, 21, 0, 0, []) := rfl
theorem kc42_21 : zt_code 42 21 = some (.getfield 76, 24, 6, 10, []) := rfl
theorem kc42_24 : zt_code 42 24 = some (.getfield 99, 27, 5, 1, []) := rfl
theorem kc42_27 : zt_code 42 27 = some (.iconst 2, 28, 0, 0, []) := rfl
theorem kc42_28 : zt_code 42 28 = some (.if_icmp .eq 6, 31, 34, 0, []) := rfl
theorem kc42_31 : zt_code 42 31 = some (.bipush (-4), 33, 0, 0, []) := rfl
theorem kc42_33 : zt_code 42 33 = some (.ireturn, 34, 0, 0, []) := rfl
theorem kc42_34 : zt_code 42 34 = some (.aload_n 0, 35, 0, 0, []) := rfl
theorem kc42_35 : zt_code 42 35 = some (.aload_n 0, 36, 0, 0, []) := rfl
theorem kc42_36 : zt_code 42 36 = some (.getfield 76, 39, 6, 10, []) := rfl
theorem kc42_39 : zt_code 42 39 = some (.putfield 69, 42, 6, 8, []) := rfl
theorem kc42_42 : zt_code 42 42 = some (.aload_n 0, 43, 0, 0, []) := rfl
theorem kc42_43 : zt_code 42 43 = some (.invokevirtual 34, 46, 44, 0, []) := rfl
theorem kc42_46 : zt_code 42 46 = some (.ifCond .eq 21, 49, 67, 0, []) := rfl
theorem kc42_49 : zt_code 42 49 = some (.aload_n 0, 50, 0, 0, []) := rfl
theorem kc42_50 : zt_code 42 50 = some (.aconst_null, 51, 0, 0, []) := rfl
theorem kc42_51 : zt_code 42 51 = some (.putfield 72, 54, 6, 9, []) := rfl
theorem kc42_54 : zt_code 42 54 = some (.aload_n 0, 55, 0, 0, []) := rfl
theorem kc42_55 : zt_code 42 55 = some (.aload_n 0, 56, 0, 0, []) := rfl
theorem kc42_56 : zt_code 42 56 = some (.getfield 69, 59, 6, 8, []) := rfl
theorem kc42_59 : zt_code 42 59 = some (.getfield 104, 62, 5, 6, []) := rfl
theorem kc42_62 : zt_code 42 62 = some (.putfield 76, 65, 6, 10, []) := rfl
theorem kc42_65 : zt_code 42 65 = some (.iconst 0, 66, 0, 0, []) := rfl
theorem kc42_66 : zt_code 42 66 = some (.ireturn, 67, 0, 0, []) := rfl
theorem kc42_67 : zt_code 42 67 = some (.aload_n 0, 68, 0, 0, []) := rfl
theorem kc42_68 : zt_code 42 68 = some (.aload_n 0, 69, 0, 0, []) := rfl
theorem kc42_69 : zt_code 42 69 = some (.getfield 21, 72, 6, 1, []) := rfl
theorem kc42_72 : zt_code 42 72 = some (.aload_n 0, 73, 0, 0, []) := rfl
theorem kc42_73 : zt_code 42 73 = some (.getfield 69, 76, 6, 8, []) := rfl
theorem kc42_76 : zt_code 42 76 = some (.aload_n 0, 77, 0, 0, []) := rfl
theorem kc42_77 : zt_code 42 77 = some (.getfield 62, 80, 6, 5, []) := rfl
theorem kc42_80 : zt_code 42 80 = some (.aload_n 0, 81, 0, 0, []) := rfl
theorem kc42_81 : zt_code 42 81 = some (.getfield 66, 84, 6, 6, []) := rfl
theorem kc42_84 : zt_code 42 84 = some (.aload_n 0, 85, 0, 0, []) := rfl
theorem kc42_85 : zt_code 42 85 = some (.getfield 30, 88, 6, 7, []) := rfl
theorem kc42_88 : zt_code 42 88 = some (.invokevirtual 107, 91, 11, 4, []) := rfl
theorem kc42_91 : zt_code 42 91 = some (.putfield 72, 94, 6, 9, []) := rfl
theorem kc42_94 : zt_code 42 94 = some (.aload_n 0, 95, 0, 0, []) := rfl
theorem kc42_95 : zt_code 42 95 = some (.getfield 72, 98, 6, 9, []) := rfl
theorem kc42_98 : zt_code 42 98 = some (.ifnonnull 19, 101, 117, 0, []) := rfl
theorem kc42_101 : zt_code 42 101 = some (.aload_n 0, 102, 0, 0, []) := rfl
theorem kc42_102 : zt_code 42 102 = some (.aconst_null, 103, 0, 0, []) := rfl
theorem kc42_103 : zt_code 42 103 = some (.putfield 76, 106, 6, 10, []) := rfl
theorem kc42_106 : zt_code 42 106 = some (.iload_n 1, 107, 0, 0, []) := rfl
theorem kc42_107 : zt_code 42 107 = some (.ifCond .eq 7, 110, 114, 0, []) := rfl
theorem kc42_110 : zt_code 42 110 = some (.iconst 0, 111, 0, 0, []) := rfl
theorem kc42_111 : zt_code 42 111 = some (.goto 5, 114, 116, 0, []) := rfl
theorem kc42_114 : zt_code 42 114 = some (.bipush (-2), 116, 0, 0, []) := rfl
theorem kc42_116 : zt_code 42 116 = some (.ireturn, 117, 0, 0, []) := rfl
theorem kc42_117 : zt_code 42 117 = some (.aload_n 0, 118, 0, 0, []) := rfl
theorem kc42_118 : zt_code 42 118 = some (.aload_n 0, 119, 0, 0, []) := rfl
theorem kc42_119 : zt_code 42 119 = some (.getfield 72, 122, 6, 9, []) := rfl
theorem kc42_122 : zt_code 42 122 = some (.getfield 113, 125, 1, 1, []) := rfl
theorem kc42_125 : zt_code 42 125 = some (.putfield 76, 128, 6, 10, []) := rfl
theorem kc42_128 : zt_code 42 128 = some (.aload_n 0, 129, 0, 0, []) := rfl
theorem kc42_129 : zt_code 42 129 = some (.getfield 76, 132, 6, 10, []) := rfl
theorem kc42_132 : zt_code 42 132 = some (.ifnull 26, 135, 158, 0, []) := rfl
theorem kc42_135 : zt_code 42 135 = some (.aload_n 0, 136, 0, 0, []) := rfl
theorem kc42_136 : zt_code 42 136 = some (.getfield 76, 139, 6, 10, []) := rfl
theorem kc42_139 : zt_code 42 139 = some (.getfield 99, 142, 5, 1, []) := rfl
theorem kc42_142 : zt_code 42 142 = some (.iconst 3, 143, 0, 0, []) := rfl
theorem kc42_143 : zt_code 42 143 = some (.if_icmp .ne 15, 146, 158, 0, []) := rfl
theorem kc42_146 : zt_code 42 146 = some (.iload_n 2, 147, 0, 0, []) := rfl
theorem kc42_147 : zt_code 42 147 = some (.ifCond .ne 7, 150, 154, 0, []) := rfl
theorem kc42_150 : zt_code 42 150 = some (.iload_n 1, 151, 0, 0, []) := rfl
theorem kc42_151 : zt_code 42 151 = some (.ifCond .ne 7, 154, 158, 0, []) := rfl
theorem kc42_154 : zt_code 42 154 = some (.iconst 1, 155, 0, 0, []) := rfl
theorem kc42_155 : zt_code 42 155 = some (.goto 4, 158, 159, 0, []) := rfl
theorem kc42_158 : zt_code 42 158 = some (.iconst 0, 159, 0, 0, []) := rfl
theorem kc42_159 : zt_code 42 159 = some (.istore_n 3, 160, 0, 0, []) := rfl
theorem kc42_160 : zt_code 42 160 = some (.iload_n 3, 161, 0, 0, []) := rfl
theorem kc42_161 : zt_code 42 161 = some (.ifCond .eq 14, 164, 175, 0, []) := rfl
set_option maxRecDepth 20000 in
theorem kc42_164 : zt_code 42 164 = some (.aload_n 0, 165, 0, 0, []) := rfl
set_option maxRecDepth 20000 in
theorem kc42_165 : zt_code 42 165 = some (.aload_n 0, 166, 0, 0, []) := rfl
set_option maxRecDepth 20000 in
theorem kc42_166 : zt_code 42 166 = some (.getfield 76, 169, 6, 10, []) := rfl
set_option maxRecDepth 20000 in
theorem kc42_169 : zt_code 42 169 = some (.invokevirtual 118, 172, 43, 1, []) := rfl
set_option maxRecDepth 20000 in
theorem kc42_172 : zt_code 42 172 = some (.goto 4, 175, 176, 0, []) := rfl
set_option maxRecDepth 20000 in
theorem kc42_175 : zt_code 42 175 = some (.iconst 0, 176, 0, 0, []) := rfl
set_option maxRecDepth 20000 in
theorem kc42_176 : zt_code 42 176 = some (.ireturn, 177, 0, 0, []) := rfl
theorem kc43_0 : zt_code 43 0 = some (.aload_n 0, 1, 0, 0, []) := rfl
theorem kc43_1 : zt_code 43 1 = some (.getfield 59, 4, 6, 4, []) := rfl
theorem kc43_4 : zt_code 43 4 = some (.bipush 40, 6, 0, 0, []) := rfl
theorem kc43_6 : zt_code 43 6 = some (.if_icmp .lt 6, 9, 12, 0, []) := rfl
theorem kc43_9 : zt_code 43 9 = some (.bipush (-8), 11, 0, 0, []) := rfl
theorem kc43_11 : zt_code 43 11 = some (.ireturn, 12, 0, 0, []) := rfl
theorem kc43_12 : zt_code 43 12 = some (.aload_n 0, 13, 0, 0, []) := rfl
theorem kc43_13 : zt_code 43 13 = some (.dup, 14, 0, 0, []) := rfl
theorem kc43_14 : zt_code 43 14 = some (.getfield 59, 17, 6, 4, []) := rfl
theorem kc43_17 : zt_code 43 17 = some (.iconst 1, 18, 0, 0, []) := rfl
theorem kc43_18 : zt_code 43 18 = some (.iadd, 19, 0, 0, []) := rfl
theorem kc43_19 : zt_code 43 19 = some (.putfield 59, 22, 6, 4, []) := rfl
theorem kc43_22 : zt_code 43 22 = some (.aload_n 0, 23, 0, 0, []) := rfl
theorem kc43_23 : zt_code 43 23 = some (.aload_n 1, 24, 0, 0, []) := rfl
theorem kc43_24 : zt_code 43 24 = some (.getfield 122, 27, 5, 7, []) := rfl
theorem kc43_27 : zt_code 43 27 = some (.iconst 0, 28, 0, 0, []) := rfl
theorem kc43_28 : zt_code 43 28 = some (.aload_n 1, 29, 0, 0, []) := rfl
theorem kc43_29 : zt_code 43 29 = some (.getfield 125, 32, 5, 8, []) := rfl
theorem kc43_32 : zt_code 43 32 = some (.invokevirtual 41, 35, 38, 3, []) := rfl
theorem kc43_35 : zt_code 43 35 = some (.aload_n 0, 36, 0, 0, []) := rfl
theorem kc43_36 : zt_code 43 36 = some (.aload_n 1, 37, 0, 0, []) := rfl
theorem kc43_37 : zt_code 43 37 = some (.iconst 0, 38, 0, 0, []) := rfl
theorem kc43_38 : zt_code 43 38 = some (.invokevirtual 128, 41, 29, 1, []) := rfl
theorem kc43_41 : zt_code 43 41 = some (.bipush 47, 43, 0, 0, []) := rfl
theorem kc43_43 : zt_code 43 43 = some (.if_icmp .ne 10, 46, 53, 0, []) := rfl
theorem kc43_46 : zt_code 43 46 = some (.aload_n 0, 47, 0, 0, []) := rfl
theorem kc43_47 : zt_code 43 47 = some (.getfield 17, 50, 6, 0, []) := rfl
theorem kc43_50 : zt_code 43 50 = some (.goto 7, 53, 57, 0, []) := rfl
theorem kc43_53 : zt_code 43 53 = some (.aload_n 0, 54, 0, 0, []) := rfl
theorem kc43_54 : zt_code 43 54 = some (.getfield 69, 57, 6, 8, []) := rfl
theorem kc43_57 : zt_code 43 57 = some (.putfield 76, 60, 6, 10, []) := rfl
theorem kc43_60 : zt_code 43 60 = some (.iconst 0, 61, 0, 0, []) := rfl
theorem kc43_61 : zt_code 43 61 = some (.ireturn, 62, 0, 0, []) := rfl
theorem kc44_0 : zt_code 44 0 = some (.aload_n 0, 1, 0, 0, []) := rfl
theorem kc44_1 : zt_code 44 1 = some (.getfield 30, 4, 6, 7, []) := rfl
theorem kc44_4 : zt_code 44 4 = some (.iconst 2, 5, 0, 0, []) := rfl
theorem kc44_5 : zt_code 44 5 = some (.if_icmp .ne 65, 8, 70, 0, []) := rfl
theorem kc44_8 : zt_code 44 8 = some (.aload_n 0, 9, 0, 0, []) := rfl
theorem kc44_9 : zt_code 44 9 = some (.getfield 62, 12, 6, 5, []) := rfl
theorem kc44_12 : zt_code 44 12 = some (.ifnull 58, 15, 70, 0, []) := rfl
theorem kc44_15 : zt_code 44 15 = some (.aload_n 0, 16, 0, 0, []) := rfl
theorem kc44_16 : zt_code 44 16 = some (.getfield 66, 19, 6, 6, []) := rfl
theorem kc44_19 : zt_code 44 19 = some (.ifCond .lt 51, 22, 70, 0, []) := rfl
theorem kc44_22 : zt_code 44 22 = some (.aload_n 0, 23, 0, 0, []) := rfl
theorem kc44_23 : zt_code 44 23 = some (.getfield 66, 26, 6, 6, []) := rfl
theorem kc44_26 : zt_code 44 26 = some (.aload_n 0, 27, 0, 0, []) := rfl
theorem kc44_27 : zt_code 44 27 = some (.getfield 62, 30, 6, 5, []) := rfl
theorem kc44_30 : zt_code 44 30 = some (.arraylength, 31, 0, 0, []) := rfl
theorem kc44_31 : zt_code 44 31 = some (.iconst 1, 32, 0, 0, []) := rfl
theorem kc44_32 : zt_code 44 32 = some (.isub, 33, 0, 0, []) := rfl
theorem kc44_33 : zt_code 44 33 = some (.if_icmp .ge 37, 36, 70, 0, []) := rfl
theorem kc44_36 : zt_code 44 36 = some (.aload_n 0, 37, 0, 0, []) := rfl
theorem kc44_37 : zt_code 44 37 = some (.getfield 62, 40, 6, 5, []) := rfl
theorem kc44_40 : zt_code 44 40 = some (.aload_n 0, 41, 0, 0, []) := rfl
theorem kc44_41 : zt_code 44 41 = some (.getfield 66, 44, 6, 6, []) := rfl
theorem kc44_44 : zt_code 44 44 = some (.baload, 45, 0, 0, []) := rfl
theorem kc44_45 : zt_code 44 45 = some (.bipush 46, 47, 0, 0, []) := rfl
theorem kc44_47 : zt_code 44 47 = some (.if_icmp .ne 23, 50, 70, 0, []) := rfl
theorem kc44_50 : zt_code 44 50 = some (.aload_n 0, 51, 0, 0, []) := rfl
theorem kc44_51 : zt_code 44 51 = some (.getfield 62, 54, 6, 5, []) := rfl
theorem kc44_54 : zt_code 44 54 = some (.aload_n 0, 55, 0, 0, []) := rfl
theorem kc44_55 : zt_code 44 55 = some (.getfield 66, 58, 6, 6, []) := rfl
theorem kc44_58 : zt_code 44 58 = some (.iconst 1, 59, 0, 0, []) := rfl
theorem kc44_59 : zt_code 44 59 = some (.iadd, 60, 0, 0, []) := rfl
theorem kc44_60 : zt_code 44 60 = some (.baload, 61, 0, 0, []) := rfl
theorem kc44_61 : zt_code 44 61 = some (.bipush 46, 63, 0, 0, []) := rfl
theorem kc44_63 : zt_code 44 63 = some (.if_icmp .ne 7, 66, 70, 0, []) := rfl
theorem kc44_66 : zt_code 44 66 = some (.iconst 1, 67, 0, 0, []) := rfl
theorem kc44_67 : zt_code 44 67 = some (.goto 4, 70, 71, 0, []) := rfl
theorem kc44_70 : zt_code 44 70 = some (.iconst 0, 71, 0, 0, []) := rfl
theorem kc44_71 : zt_code 44 71 = some (.ireturn, 72, 0, 0, []) := rfl
theorem kc45_0 : zt_code 45 0 = some (.aload_n 0, 1, 0, 0, []) := rfl
theorem kc45_1 : zt_code 45 1 = some (.invokespecial 1, 4, 1000, 0, []) := rfl
theorem kc45_4 : zt_code 45 4 = some (.aload_n 0, 5, 0, 0, []) := rfl
theorem kc45_5 : zt_code 45 5 = some (.new 7, 8, 4, 2, []) := rfl
theorem kc45_8 : zt_code 45 8 = some (.dup, 9, 0, 0, []) := rfl
theorem kc45_9 : zt_code 45 9 = some (.invokespecial 9, 12, 19, 0, []) := rfl
theorem kc45_12 : zt_code 45 12 = some (.putfield 10, 15, 7, 0, []) := rfl
theorem kc45_15 : zt_code 45 15 = some (.aload_n 0, 16, 0, 0, []) := rfl
theorem kc45_16 : zt_code 45 16 = some (.new 16, 19, 0, 2, []) := rfl
theorem kc45_19 : zt_code 45 19 = some (.dup, 20, 0, 0, []) := rfl
theorem kc45_20 : zt_code 45 20 = some (.invokespecial 18, 23, 1, 0, []) := rfl
theorem kc45_23 : zt_code 45 23 = some (.putfield 19, 26, 7, 1, []) := rfl
theorem kc45_26 : zt_code 45 26 = some (.aload_n 0, 27, 0, 0, []) := rfl
theorem kc45_27 : zt_code 45 27 = some (.new 23, 30, 2, 2, []) := rfl
theorem kc45_30 : zt_code 45 30 = some (.dup, 31, 0, 0, []) := rfl
theorem kc45_31 : zt_code 45 31 = some (.invokespecial 25, 34, 10, 0, []) := rfl
theorem kc45_34 : zt_code 45 34 = some (.putfield 26, 37, 7, 2, []) := rfl
theorem kc45_37 : zt_code 45 37 = some (.aload_n 0, 38, 0, 0, []) := rfl
theorem kc45_38 : zt_code 45 38 = some (.new 30, 41, 6, 11, []) := rfl
theorem kc45_41 : zt_code 45 41 = some (.dup, 42, 0, 0, []) := rfl
theorem kc45_42 : zt_code 45 42 = some (.aload_n 0, 43, 0, 0, []) := rfl
theorem kc45_43 : zt_code 45 43 = some (.getfield 19, 46, 7, 1, []) := rfl
theorem kc45_46 : zt_code 45 46 = some (.getfield 32, 49, 0, 1, []) := rfl
theorem kc45_49 : zt_code 45 49 = some (.aload_n 0, 50, 0, 0, []) := rfl
theorem kc45_50 : zt_code 45 50 = some (.getfield 26, 53, 7, 2, []) := rfl
theorem kc45_53 : zt_code 45 53 = some (.invokespecial 36, 56, 34, 2, []) := rfl
theorem kc45_56 : zt_code 45 56 = some (.putfield 39, 59, 7, 3, []) := rfl
theorem kc45_59 : zt_code 45 59 = some (.aload_n 0, 60, 0, 0, []) := rfl
theorem kc45_60 : zt_code 45 60 = some (.new 30, 63, 6, 11, []) := rfl
theorem kc45_63 : zt_code 45 63 = some (.dup, 64, 0, 0, []) := rfl
theorem kc45_64 : zt_code 45 64 = some (.aload_n 0, 65, 0, 0, []) := rfl
theorem kc45_65 : zt_code 45 65 = some (.getfield 19, 68, 7, 1, []) := rfl
theorem kc45_68 : zt_code 45 68 = some (.getfield 32, 71, 0, 1, []) := rfl
theorem kc45_71 : zt_code 45 71 = some (.aload_n 0, 72, 0, 0, []) := rfl
theorem kc45_72 : zt_code 45 72 = some (.getfield 26, 75, 7, 2, []) := rfl
theorem kc45_75 : zt_code 45 75 = some (.invokespecial 36, 78, 34, 2, []) := rfl
theorem kc45_78 : zt_code 45 78 = some (.putfield 43, 81, 7, 4, []) := rfl
theorem kc45_81 : zt_code 45 81 = some (.aload_n 0, 82, 0, 0, []) := rfl
theorem kc45_82 : zt_code 45 82 = some (.bipush 40, 84, 0, 0, []) := rfl
theorem kc45_84 : zt_code 45 84 = some (.putfield 46, 87, 7, 5, []) := rfl
theorem kc45_87 : zt_code 45 87 = some (.return_, 88, 0, 0, []) := rfl
theorem kc46_0 : zt_code 46 0 = some (.iload_n 3, 1, 0, 0, []) := rfl
theorem kc46_1 : zt_code 46 1 = some (.iconst 1, 2, 0, 0, []) := rfl
theorem kc46_2 : zt_code 46 2 = some (.if_icmp .lt 20, 5, 22, 0, []) := rfl
theorem kc46_5 : zt_code 46 5 = some (.iload_n 3, 6, 0, 0, []) := rfl
theorem kc46_6 : zt_code 46 6 = some (.bipush 8, 8, 0, 0, []) := rfl
theorem kc46_8 : zt_code 46 8 = some (.if_icmp .gt 14, 11, 22, 0, []) := rfl
theorem kc46_11 : zt_code 46 11 = some (.aload_n 0, 12, 0, 0, []) := rfl
theorem kc46_12 : zt_code 46 12 = some (.getfield 10, 15, 7, 0, []) := rfl
theorem kc46_15 : zt_code 46 15 = some (.iload_n 3, 16, 0, 0, []) := rfl
theorem kc46_16 : zt_code 46 16 = some (.invokevirtual 50, 19, 20, 1, []) := rfl
theorem kc46_19 : zt_code 46 19 = some (.ifCond .ne 5, 22, 24, 0, []) := rfl
theorem kc46_22 : zt_code 46 22 = some (.iconst (-1), 23, 0, 0, []) := rfl
theorem kc46_23 : zt_code 46 23 = some (.ireturn, 24, 0, 0, []) := rfl
theorem kc46_24 : zt_code 46 24 = some (.iload_n 3, 25, 0, 0, []) := rfl
theorem kc46_25 : zt_code 46 25 = some (.iconst 1, 26, 0, 0, []) := rfl
theorem kc46_26 : zt_code 46 26 = some (.isub, 27, 0, 0, []) := rfl
theorem kc46_27 : zt_code 46 27 = some (.istore 4, 29, 0, 0, []) := rfl
theorem kc46_29 : zt_code 46 29 = some (.iload 4, 31, 0, 0, []) := rfl
theorem kc46_31 : zt_code 46 31 = some (.ifCond .lt 25, 34, 56, 0, []) := rfl
theorem kc46_34 : zt_code 46 34 = some (.aload_n 0, 35, 0, 0, []) := rfl
theorem kc46_35 : zt_code 46 35 = some (.getfield 10, 38, 7, 0, []) := rfl
theorem kc46_38 : zt_code 46 38 = some (.lload_n 1, 39, 0, 0, []) := rfl
theorem kc46_39 : zt_code 46 39 = some (.bipush 8, 41, 0, 0, []) := rfl
theorem kc46_41 : zt_code 46 41 = some (.iload 4, 43, 0, 0, []) := rfl
theorem kc46_43 : zt_code 46 43 = some (.imul, 44, 0, 0, []) := rfl
theorem kc46_44 : zt_code 46 44 = some (.lushr, 45, 0, 0, []) := rfl
theorem kc46_45 : zt_code 46 45 = some (.l2i, 46, 0, 0, []) := rfl
theorem kc46_46 : zt_code 46 46 = some (.i2b, 47, 0, 0, []) := rfl
theorem kc46_47 : zt_code 46 47 = some (.invokevirtual 54, 50, 21, 1, []) := rfl
theorem kc46_50 : zt_code 46 50 = some (.iinc 4 (-1), 53, 0, 0, []) := rfl
theorem kc46_53 : zt_code 46 53 = some (.goto (-24), 56, 29, 0, []) := rfl
theorem kc46_56 : zt_code 46 56 = some (.aload_n 0, 57, 0, 0, []) := rfl
theorem kc46_57 : zt_code 46 57 = some (.getfield 10, 60, 7, 0, []) := rfl
theorem kc46_60 : zt_code 46 60 = some (.getfield 58, 63, 4, 1, []) := rfl
theorem kc46_63 : zt_code 46 63 = some (.ireturn, 64, 0, 0, []) := rfl
theorem kc47_0 : zt_code 47 0 = some (.iload_n 1, 1, 0, 0, []) := rfl
theorem kc47_1 : zt_code 47 1 = some (.ifCond .lt 33, 4, 34, 0, []) := rfl
theorem kc47_4 : zt_code 47 4 = some (.iload_n 1, 5, 0, 0, []) := rfl
theorem kc47_5 : zt_code 47 5 = some (.sipush 255, 8, 0, 0, []) := rfl
theorem kc47_8 : zt_code 47 8 = some (.if_icmp .gt 26, 11, 34, 0, []) := rfl
theorem kc47_11 : zt_code 47 11 = some (.iload_n 2, 12, 0, 0, []) := rfl
theorem kc47_12 : zt_code 47 12 = some (.iconst 1, 13, 0, 0, []) := rfl
theorem kc47_13 : zt_code 47 13 = some (.if_icmp .lt 21, 16, 34, 0, []) := rfl
theorem kc47_16 : zt_code 47 16 = some (.iload_n 2, 17, 0, 0, []) := rfl
theorem kc47_17 : zt_code 47 17 = some (.sipush 1200, 20, 0, 0, []) := rfl
theorem kc47_20 : zt_code 47 20 = some (.if_icmp .gt 14, 23, 34, 0, []) := rfl
theorem kc47_23 : zt_code 47 23 = some (.aload_n 0, 24, 0, 0, []) := rfl
theorem kc47_24 : zt_code 47 24 = some (.getfield 10, 27, 7, 0, []) := rfl
theorem kc47_27 : zt_code 47 27 = some (.iload_n 2, 28, 0, 0, []) := rfl
theorem kc47_28 : zt_code 47 28 = some (.invokevirtual 50, 31, 20, 1, []) := rfl
theorem kc47_31 : zt_code 47 31 = some (.ifCond .ne 5, 34, 36, 0, []) := rfl
theorem kc47_34 : zt_code 47 34 = some (.iconst (-1), 35, 0, 0, []) := rfl
theorem kc47_35 : zt_code 47 35 = some (.ireturn, 36, 0, 0, []) := rfl
theorem kc47_36 : zt_code 47 36 = some (.iconst 0, 37, 0, 0, []) := rfl
theorem kc47_37 : zt_code 47 37 = some (.istore_n 3, 38, 0, 0, []) := rfl
theorem kc47_38 : zt_code 47 38 = some (.iload_n 3, 39, 0, 0, []) := rfl
theorem kc47_39 : zt_code 47 39 = some (.iload_n 2, 40, 0, 0, []) := rfl
theorem kc47_40 : zt_code 47 40 = some (.if_icmp .ge 18, 43, 58, 0, []) := rfl
theorem kc47_43 : zt_code 47 43 = some (.aload_n 0, 44, 0, 0, []) := rfl
theorem kc47_44 : zt_code 47 44 = some (.getfield 10, 47, 7, 0, []) := rfl
theorem kc47_47 : zt_code 47 47 = some (.iload_n 1, 48, 0, 0, []) := rfl
theorem kc47_48 : zt_code 47 48 = some (.i2b, 49, 0, 0, []) := rfl
theorem kc47_49 : zt_code 47 49 = some (.invokevirtual 54, 52, 21, 1, []) := rfl
theorem kc47_52 : zt_code 47 52 = some (.iinc 3 1, 55, 0, 0, []) := rfl
theorem kc47_55 : zt_code 47 55 = some (.goto (-17), 58, 38, 0, []) := rfl
theorem kc47_58 : zt_code 47 58 = some (.aload_n 0, 59, 0, 0, []) := rfl
theorem kc47_59 : zt_code 47 59 = some (.getfield 10, 62, 7, 0, []) := rfl
theorem kc47_62 : zt_code 47 62 = some (.getfield 58, 65, 4, 1, []) := rfl
theorem kc47_65 : zt_code 47 65 = some (.ireturn, 66, 0, 0, []) := rfl
theorem kc48_0 : zt_code 48 0 = some (.aload_n 0, 1, 0, 0, []) := rfl
theorem kc48_1 : zt_code 48 1 = some (.getfield 19, 4, 7, 1, []) := rfl
theorem kc48_4 : zt_code 48 4 = some (.invokevirtual 61, 7, 5, 0, []) := rfl
theorem kc48_7 : zt_code 48 7 = some (.istore_n 2, 8, 0, 0, []) := rfl
theorem kc48_8 : zt_code 48 8 = some (.iload_n 1, 9, 0, 0, []) := rfl
theorem kc48_9 : zt_code 48 9 = some (.sipush 200, 12, 0, 0, []) := rfl
theorem kc48_12 : zt_code 48 12 = some (.if_icmp .gt 8, 15, 20, 0, []) := rfl
theorem kc48_15 : zt_code 48 15 = some (.iload_n 1, 16, 0, 0, []) := rfl
theorem kc48_16 : zt_code 48 16 = some (.iload_n 2, 17, 0, 0, []) := rfl
theorem kc48_17 : zt_code 48 17 = some (.if_icmp .ge 5, 20, 22, 0, []) := rfl
theorem kc48_20 : zt_code 48 20 = some (.iconst (-1), 21, 0, 0, []) := rfl
theorem kc48_21 : zt_code 48 21 = some (.ireturn, 22, 0, 0, []) := rfl
theorem kc48_22 : zt_code 48 22 = some (.aload_n 0, 23, 0, 0, []) := rfl
theorem kc48_23 : zt_code 48 23 = some (.iload_n 1, 24, 0, 0, []) := rfl
theorem kc48_24 : zt_code 48 24 = some (.putfield 46, 27, 7, 5, []) := rfl
theorem kc48_27 : zt_code 48 27 = some (.iload_n 1, 28, 0, 0, []) := rfl
theorem kc48_28 : zt_code 48 28 = some (.iload_n 2, 29, 0, 0, []) := rfl
theorem kc48_29 : zt_code 48 29 = some (.isub, 30, 0, 0, []) := rfl
theorem kc48_30 : zt_code 48 30 = some (.ireturn, 31, 0, 0, []) := rfl
theorem kc49_0 : zt_code 49 0 = some (.aload_n 0, 1, 0, 0, []) := rfl
theorem kc49_1 : zt_code 49 1 = some (.invokevirtual 65, 4, 62, 0, []) := rfl
theorem kc49_4 : zt_code 49 4 = some (.istore_n 2, 5, 0, 0, []) := rfl
theorem kc49_5 : zt_code 49 5 = some (.iload_n 1, 6, 0, 0, []) := rfl
theorem kc49_6 : zt_code 49 6 = some (.iconst 1, 7, 0, 0, []) := rfl
theorem kc49_7 : zt_code 49 7 = some (.if_icmp .eq 10, 10, 17, 0, []) := rfl
theorem kc49_10 : zt_code 49 10 = some (.iload_n 1, 11, 0, 0, []) := rfl
theorem kc49_11 : zt_code 49 11 = some (.iconst 2, 12, 0, 0, []) := rfl
theorem kc49_12 : zt_code 49 12 = some (.if_icmp .eq 5, 15, 17, 0, []) := rfl
theorem kc49_15 : zt_code 49 15 = some (.iconst (-1), 16, 0, 0, []) := rfl
theorem kc49_16 : zt_code 49 16 = some (.ireturn, 17, 0, 0, []) := rfl
theorem kc49_17 : zt_code 49 17 = some (.iload_n 2, 18, 0, 0, []) := rfl
theorem kc49_18 : zt_code 49 18 = some (.ifCond .eq 5, 21, 23, 0, []) := rfl
theorem kc49_21 : zt_code 49 21 = some (.iload_n 2, 22, 0, 0, []) := rfl
theorem kc49_22 : zt_code 49 22 = some (.ireturn, 23, 0, 0, []) := rfl
theorem kc49_23 : zt_code 49 23 = some (.aload_n 0, 24, 0, 0, []) := rfl
theorem kc49_24 : zt_code 49 24 = some (.getfield 39, 27, 7, 3, []) := rfl
theorem kc49_27 : zt_code 49 27 = some (.getfield 68, 30, 6, 10, []) := rfl
theorem kc49_30 : zt_code 49 30 = some (.ifnull 6, 33, 36, 0, []) := rfl
theorem kc49_33 : zt_code 49 33 = some (.bipush (-3), 35, 0, 0, []) := rfl
theorem kc49_35 : zt_code 49 35 = some (.ireturn, 36, 0, 0, []) := rfl
theorem kc49_36 : zt_code 49 36 = some (.aload_n 0, 37, 0, 0, []) := rfl
theorem kc49_37 : zt_code 49 37 = some (.getfield 19, 40, 7, 1, []) := rfl
theorem kc49_40 : zt_code 49 40 = some (.invokevirtual 71, 43, 3, 0, []) := rfl
theorem kc49_43 : zt_code 49 43 = some (.astore_n 3, 44, 0, 0, []) := rfl
theorem kc49_44 : zt_code 49 44 = some (.aload_n 3, 45, 0, 0, []) := rfl
theorem kc49_45 : zt_code 49 45 = some (.ifnull 18, 48, 63, 0, []) := rfl
theorem kc49_48 : zt_code 49 48 = some (.aload_n 0, 49, 0, 0, []) := rfl
theorem kc49_49 : zt_code 49 49 = some (.aload_n 0, 50, 0, 0, []) := rfl
theorem kc49_50 : zt_code 49 50 = some (.getfield 39, 53, 7, 3, []) := rfl
theorem kc49_53 : zt_code 49 53 = some (.getfield 75, 56, 6, 8, []) := rfl
theorem kc49_56 : zt_code 49 56 = some (.iconst 1, 57, 0, 0, []) := rfl
theorem kc49_57 : zt_code 49 57 = some (.invokevirtual 78, 60, 64, 2, []) := rfl
theorem kc49_60 : zt_code 49 60 = some (.ifCond .eq 6, 63, 66, 0, []) := rfl
theorem kc49_63 : zt_code 49 63 = some (.bipush (-7), 65, 0, 0, []) := rfl
theorem kc49_65 : zt_code 49 65 = some (.ireturn, 66, 0, 0, []) := rfl
theorem kc49_66 : zt_code 49 66 = some (.aload_n 3, 67, 0, 0, []) := rfl
theorem kc49_67 : zt_code 49 67 = some (.iload_n 1, 68, 0, 0, []) := rfl
theorem kc49_68 : zt_code 49 68 = some (.invokevirtual 82, 71, 27, 1, []) := rfl
theorem kc49_71 : zt_code 49 71 = some (.aload_n 0, 72, 0, 0, []) := rfl
theorem kc49_72 : zt_code 49 72 = some (.getfield 26, 75, 7, 2, []) := rfl
theorem kc49_75 : zt_code 49 75 = some (.aload_n 3, 76, 0, 0, []) := rfl
theorem kc49_76 : zt_code 49 76 = some (.aload_n 0, 77, 0, 0, []) := rfl
theorem kc49_77 : zt_code 49 77 = some (.getfield 39, 80, 7, 3, []) := rfl
theorem kc49_80 : zt_code 49 80 = some (.invokevirtual 88, 83, 12, 2, []) := rfl
theorem kc49_83 : zt_code 49 83 = some (.aload_n 3, 84, 0, 0, []) := rfl
theorem kc49_84 : zt_code 49 84 = some (.getfield 92, 87, 5, 0, []) := rfl
theorem kc49_87 : zt_code 49 87 = some (.ireturn, 88, 0, 0, []) := rfl
theorem kc50_0 : zt_code 50 0 = some (.aload_n 0, 1, 0, 0, []) := rfl
theorem kc50_1 : zt_code 50 1 = some (.iconst 0, 2, 0, 0, []) := rfl
theorem kc50_2 : zt_code 50 2 = some (.invokevirtual 95, 5, 63, 1, []) := rfl
theorem kc50_5 : zt_code 50 5 = some (.istore_n 1, 6, 0, 0, []) := rfl
theorem kc50_6 : zt_code 50 6 = some (.iload_n 1, 7, 0, 0, []) := rfl
theorem kc50_7 : zt_code 50 7 = some (.ifCond .eq 5, 10, 12, 0, []) := rfl
theorem kc50_10 : zt_code 50 10 = some (.iload_n 1, 11, 0, 0, []) := rfl
theorem kc50_11 : zt_code 50 11 = some (.ireturn, 12, 0, 0, []) := rfl
theorem kc50_12 : zt_code 50 12 = some (.aload_n 0, 13, 0, 0, []) := rfl
theorem kc50_13 : zt_code 50 13 = some (.getfield 39, 16, 7, 3, []) := rfl
theorem kc50_16 : zt_code 50 16 = some (.getfield 68, 19, 6, 10, []) := rfl
theorem kc50_19 : zt_code 50 19 = some (.astore_n 2, 20, 0, 0, []) := rfl
theorem kc50_20 : zt_code 50 20 = some (.aload_n 2, 21, 0, 0, []) := rfl
theorem kc50_21 : zt_code 50 21 = some (.ifnonnull 6, 24, 27, 0, []) := rfl
theorem kc50_24 : zt_code 50 24 = some (.bipush (-2), 26, 0, 0, []) := rfl
theorem kc50_26 : zt_code 50 26 = some (.ireturn, 27, 0, 0, []) := rfl
theorem kc50_27 : zt_code 50 27 = some (.aload_n 2, 28, 0, 0, []) := rfl
theorem kc50_28 : zt_code 50 28 = some (.getfield 99, 31, 5, 1, []) := rfl
theorem kc50_31 : zt_code 50 31 = some (.iconst 2, 32, 0, 0, []) := rfl
theorem kc50_32 : zt_code 50 32 = some (.if_icmp .ne 6, 35, 38, 0, []) := rfl
theorem kc50_35 : zt_code 50 35 = some (.bipush (-5), 37, 0, 0, []) := rfl
theorem kc50_37 : zt_code 50 37 = some (.ireturn, 38, 0, 0, []) := rfl
theorem kc50_38 : zt_code 50 38 = some (.aload_n 0, 39, 0, 0, []) := rfl
theorem kc50_39 : zt_code 50 39 = some (.getfield 43, 42, 7, 4, []) := rfl
theorem kc50_42 : zt_code 50 42 = some (.getfield 68, 45, 6, 10, []) := rfl
theorem kc50_45 : zt_code 50 45 = some (.ifnull 6, 48, 51, 0, []) := rfl
theorem kc50_48 : zt_code 50 48 = some (.bipush (-3), 50, 0, 0, []) := rfl
theorem kc50_50 : zt_code 50 50 = some (.ireturn, 51, 0, 0, []) := rfl
theorem kc50_51 : zt_code 50 51 = some (.aload_n 0, 52, 0, 0, []) := rfl
theorem kc50_52 : zt_code 50 52 = some (.aload_n 0, 53, 0, 0, []) := rfl
theorem kc50_53 : zt_code 50 53 = some (.getfield 43, 56, 7, 4, []) := rfl
theorem kc50_56 : zt_code 50 56 = some (.getfield 75, 59, 6, 8, []) := rfl
theorem kc50_59 : zt_code 50 59 = some (.iconst 0, 60, 0, 0, []) := rfl
theorem kc50_60 : zt_code 50 60 = some (.invokevirtual 78, 63, 64, 2, []) := rfl
theorem kc50_63 : zt_code 50 63 = some (.ifCond .eq 6, 66, 69, 0, []) := rfl
theorem kc50_66 : zt_code 50 66 = some (.bipush (-7), 68, 0, 0, []) := rfl
theorem kc50_68 : zt_code 50 68 = some (.ireturn, 69, 0, 0, []) := rfl
theorem kc50_69 : zt_code 50 69 = some (.aload_n 0, 70, 0, 0, []) := rfl
theorem kc50_70 : zt_code 50 70 = some (.getfield 26, 73, 7, 2, []) := rfl
theorem kc50_73 : zt_code 50 73 = some (.aload_n 2, 74, 0, 0, []) := rfl
theorem kc50_74 : zt_code 50 74 = some (.aload_n 0, 75, 0, 0, []) := rfl
theorem kc50_75 : zt_code 50 75 = some (.getfield 43, 78, 7, 4, []) := rfl
theorem kc50_78 : zt_code 50 78 = some (.invokevirtual 88, 81, 12, 2, []) := rfl
theorem kc50_81 : zt_code 50 81 = some (.aload_n 2, 82, 0, 0, []) := rfl
theorem kc50_82 : zt_code 50 82 = some (.getfield 92, 85, 5, 0, []) := rfl
theorem kc50_85 : zt_code 50 85 = some (.ireturn, 86, 0, 0, []) := rfl
theorem kc51_0 : zt_code 51 0 = some (.aload_n 0, 1, 0, 0, []) := rfl
theorem kc51_1 : zt_code 51 1 = some (.getfield 10, 4, 7, 0, []) := rfl
theorem kc51_4 : zt_code 51 4 = some (.invokevirtual 102, 7, 22, 0, []) := rfl
theorem kc51_7 : zt_code 51 7 = some (.istore_n 1, 8, 0, 0, []) := rfl
theorem kc51_8 : zt_code 51 8 = some (.aload_n 0, 9, 0, 0, []) := rfl
theorem kc51_9 : zt_code 51 9 = some (.getfield 10, 12, 7, 0, []) := rfl
theorem kc51_12 : zt_code 51 12 = some (.iload_n 1, 13, 0, 0, []) := rfl
theorem kc51_13 : zt_code 51 13 = some (.invokevirtual 105, 16, 24, 1, []) := rfl
theorem kc51_16 : zt_code 51 16 = some (.istore_n 2, 17, 0, 0, []) := rfl
theorem kc51_17 : zt_code 51 17 = some (.iload_n 1, 18, 0, 0, []) := rfl
theorem kc51_18 : zt_code 51 18 = some (.iload_n 2, 19, 0, 0, []) := rfl
theorem kc51_19 : zt_code 51 19 = some (.isub, 20, 0, 0, []) := rfl
theorem kc51_20 : zt_code 51 20 = some (.iconst 1, 21, 0, 0, []) := rfl
theorem kc51_21 : zt_code 51 21 = some (.isub, 22, 0, 0, []) := rfl
theorem kc51_22 : zt_code 51 22 = some (.istore_n 3, 23, 0, 0, []) := rfl
theorem kc51_23 : zt_code 51 23 = some (.iload_n 2, 24, 0, 0, []) := rfl
theorem kc51_24 : zt_code 51 24 = some (.ifCond .lt 15, 27, 39, 0, []) := rfl
theorem kc51_27 : zt_code 51 27 = some (.iload_n 3, 28, 0, 0, []) := rfl
theorem kc51_28 : zt_code 51 28 = some (.iconst 1, 29, 0, 0, []) := rfl
theorem kc51_29 : zt_code 51 29 = some (.if_icmp .lt 10, 32, 39, 0, []) := rfl
theorem kc51_32 : zt_code 51 32 = some (.iload_n 3, 33, 0, 0, []) := rfl
theorem kc51_33 : zt_code 51 33 = some (.sipush 1000, 36, 0, 0, []) := rfl
theorem kc51_36 : zt_code 51 36 = some (.if_icmp .le 5, 39, 41, 0, []) := rfl
theorem kc51_39 : zt_code 51 39 = some (.iconst (-1), 40, 0, 0, []) := rfl
theorem kc51_40 : zt_code 51 40 = some (.ireturn, 41, 0, 0, []) := rfl
theorem kc51_41 : zt_code 51 41 = some (.aload_n 0, 42, 0, 0, []) := rfl
theorem kc51_42 : zt_code 51 42 = some (.getfield 39, 45, 7, 3, []) := rfl
theorem kc51_45 : zt_code 51 45 = some (.aload_n 0, 46, 0, 0, []) := rfl
theorem kc51_46 : zt_code 51 46 = some (.getfield 10, 49, 7, 0, []) := rfl
theorem kc51_49 : zt_code 51 49 = some (.getfield 109, 52, 4, 0, []) := rfl
theorem kc51_52 : zt_code 51 52 = some (.iconst 0, 53, 0, 0, []) := rfl
theorem kc51_53 : zt_code 51 53 = some (.iload_n 2, 54, 0, 0, []) := rfl
theorem kc51_54 : zt_code 51 54 = some (.invokevirtual 113, 57, 35, 3, []) := rfl
theorem kc51_57 : zt_code 51 57 = some (.istore 4, 59, 0, 0, []) := rfl
theorem kc51_59 : zt_code 51 59 = some (.iload 4, 61, 0, 0, []) := rfl
theorem kc51_61 : zt_code 51 61 = some (.ifCond .eq 6, 64, 67, 0, []) := rfl
theorem kc51_64 : zt_code 51 64 = some (.iload 4, 66, 0, 0, []) := rfl
theorem kc51_66 : zt_code 51 66 = some (.ireturn, 67, 0, 0, []) := rfl
theorem kc51_67 : zt_code 51 67 = some (.aload_n 0, 68, 0, 0, []) := rfl
theorem kc51_68 : zt_code 51 68 = some (.getfield 39, 71, 7, 3, []) := rfl
theorem kc51_71 : zt_code 51 71 = some (.getfield 68, 74, 6, 10, []) := rfl
theorem kc51_74 : zt_code 51 74 = some (.ifnull 6, 77, 80, 0, []) := rfl
theorem kc51_77 : zt_code 51 77 = some (.bipush (-3), 79, 0, 0, []) := rfl
theorem kc51_79 : zt_code 51 79 = some (.ireturn, 80, 0, 0, []) := rfl
theorem kc51_80 : zt_code 51 80 = some (.aload_n 0, 81, 0, 0, []) := rfl
theorem kc51_81 : zt_code 51 81 = some (.getfield 19, 84, 7, 1, []) := rfl
theorem kc51_84 : zt_code 51 84 = some (.invokevirtual 71, 87, 3, 0, []) := rfl
theorem kc51_87 : zt_code 51 87 = some (.astore 5, 89, 0, 0, []) := rfl
theorem kc51_89 : zt_code 51 89 = some (.aload 5, 91, 0, 0, []) := rfl
theorem kc51_91 : zt_code 51 91 = some (.ifnull 21, 94, 112, 0, []) := rfl
theorem kc51_94 : zt_code 51 94 = some (.aload_n 0, 95, 0, 0, []) := rfl
theorem kc51_95 : zt_code 51 95 = some (.aload_n 0, 96, 0, 0, []) := rfl
theorem kc51_96 : zt_code 51 96 = some (.getfield 39, 99, 7, 3, []) := rfl
theorem kc51_99 : zt_code 51 99 = some (.getfield 75, 102, 6, 8, []) := rfl
theorem kc51_102 : zt_code 51 102 = some (.iload_n 3, 103, 0, 0, []) := rfl
theorem kc51_103 : zt_code 51 103 = some (.invokestatic 117, 106, 70, 1, []) := rfl
theorem kc51_106 : zt_code 51 106 = some (.invokevirtual 78, 109, 64, 2, []) := rfl
theorem kc51_109 : zt_code 51 109 = some (.ifCond .eq 6, 112, 115, 0, []) := rfl
theorem kc51_112 : zt_code 51 112 = some (.bipush (-7), 114, 0, 0, []) := rfl
theorem kc51_114 : zt_code 51 114 = some (.ireturn, 115, 0, 0, []) := rfl
theorem kc51_115 : zt_code 51 115 = some (.aload 5, 117, 0, 0, []) := rfl
theorem kc51_117 : zt_code 51 117 = some (.iconst 3, 118, 0, 0, []) := rfl
theorem kc51_118 : zt_code 51 118 = some (.invokevirtual 82, 121, 27, 1, []) := rfl
theorem kc51_121 : zt_code 51 121 = some (.aload 5, 123, 0, 0, []) := rfl
theorem kc51_123 : zt_code 51 123 = some (.aload_n 0, 124, 0, 0, []) := rfl
theorem kc51_124 : zt_code 51 124 = some (.getfield 10, 127, 7, 0, []) := rfl
theorem kc51_127 : zt_code 51 127 = some (.getfield 109, 130, 4, 0, []) := rfl
theorem kc51_130 : zt_code 51 130 = some (.iload_n 2, 131, 0, 0, []) := rfl
theorem kc51_131 : zt_code 51 131 = some (.iconst 1, 132, 0, 0, []) := rfl
theorem kc51_132 : zt_code 51 132 = some (.iadd, 133, 0, 0, []) := rfl
theorem kc51_133 : zt_code 51 133 = some (.iload_n 3, 134, 0, 0, []) := rfl
theorem kc51_134 : zt_code 51 134 = some (.invokevirtual 120, 137, 28, 3, []) := rfl
theorem kc51_137 : zt_code 51 137 = some (.aload_n 0, 138, 0, 0, []) := rfl
theorem kc51_138 : zt_code 51 138 = some (.getfield 26, 141, 7, 2, []) := rfl
theorem kc51_141 : zt_code 51 141 = some (.aload 5, 143, 0, 0, []) := rfl
theorem kc51_143 : zt_code 51 143 = some (.aload_n 0, 144, 0, 0, []) := rfl
theorem kc51_144 : zt_code 51 144 = some (.getfield 39, 147, 7, 3, []) := rfl
theorem kc51_147 : zt_code 51 147 = some (.invokevirtual 88, 150, 12, 2, []) := rfl
theorem kc51_150 : zt_code 51 150 = some (.aload 5, 152, 0, 0, []) := rfl
theorem kc51_152 : zt_code 51 152 = some (.getfield 92, 155, 5, 0, []) := rfl
theorem kc51_155 : zt_code 51 155 = some (.ireturn, 156, 0, 0, []) := rfl
theorem kc52_0 : zt_code 52 0 = some (.aload_n 0, 1, 0, 0, []) := rfl
theorem kc52_1 : zt_code 52 1 = some (.invokevirtual 65, 4, 62, 0, []) := rfl
theorem kc52_4 : zt_code 52 4 = some (.istore_n 1, 5, 0, 0, []) := rfl
theorem kc52_5 : zt_code 52 5 = some (.iload_n 1, 6, 0, 0, []) := rfl
theorem kc52_6 : zt_code 52 6 = some (.ifCond .eq 5, 9, 11, 0, []) := rfl
theorem kc52_9 : zt_code 52 9 = some (.iload_n 1, 10, 0, 0, []) := rfl
theorem kc52_10 : zt_code 52 10 = some (.ireturn, 11, 0, 0, []) := rfl
theorem kc52_11 : zt_code 52 11 = some (.aload_n 0, 12, 0, 0, []) := rfl
theorem kc52_12 : zt_code 52 12 = some (.getfield 39, 15, 7, 3, []) := rfl
theorem kc52_15 : zt_code 52 15 = some (.getfield 68, 18, 6, 10, []) := rfl
theorem kc52_18 : zt_code 52 18 = some (.astore_n 2, 19, 0, 0, []) := rfl
theorem kc52_19 : zt_code 52 19 = some (.aload_n 2, 20, 0, 0, []) := rfl
theorem kc52_20 : zt_code 52 20 = some (.ifnonnull 6, 23, 26, 0, []) := rfl
theorem kc52_23 : zt_code 52 23 = some (.bipush (-2), 25, 0, 0, []) := rfl
theorem kc52_25 : zt_code 52 25 = some (.ireturn, 26, 0, 0, []) := rfl
theorem kc52_26 : zt_code 52 26 = some (.aload_n 2, 27, 0, 0, []) := rfl
theorem kc52_27 : zt_code 52 27 = some (.getfield 99, 30, 5, 1, []) := rfl
theorem kc52_30 : zt_code 52 30 = some (.iconst 2, 31, 0, 0, []) := rfl
theorem kc52_31 : zt_code 52 31 = some (.if_icmp .ne 6, 34, 37, 0, []) := rfl
theorem kc52_34 : zt_code 52 34 = some (.bipush (-5), 36, 0, 0, []) := rfl
theorem kc52_36 : zt_code 52 36 = some (.ireturn, 37, 0, 0, []) := rfl
theorem kc52_37 : zt_code 52 37 = some (.aload_n 0, 38, 0, 0, []) := rfl
theorem kc52_38 : zt_code 52 38 = some (.aload_n 0, 39, 0, 0, []) := rfl
theorem kc52_39 : zt_code 52 39 = some (.getfield 39, 42, 7, 3, []) := rfl
theorem kc52_42 : zt_code 52 42 = some (.getfield 124, 45, 6, 9, []) := rfl
theorem kc52_45 : zt_code 52 45 = some (.invokevirtual 128, 48, 69, 1, []) := rfl
theorem kc52_48 : zt_code 52 48 = some (.aload_n 2, 49, 0, 0, []) := rfl
theorem kc52_49 : zt_code 52 49 = some (.getfield 92, 52, 5, 0, []) := rfl
theorem kc52_52 : zt_code 52 52 = some (.ireturn, 53, 0, 0, []) := rfl
theorem kc53_0 : zt_code 53 0 = some (.aload_n 0, 1, 0, 0, []) := rfl
theorem kc53_1 : zt_code 53 1 = some (.invokevirtual 65, 4, 62, 0, []) := rfl
theorem kc53_4 : zt_code 53 4 = some (.istore_n 1, 5, 0, 0, []) := rfl
theorem kc53_5 : zt_code 53 5 = some (.iload_n 1, 6, 0, 0, []) := rfl
theorem kc53_6 : zt_code 53 6 = some (.ifCond .eq 5, 9, 11, 0, []) := rfl
theorem kc53_9 : zt_code 53 9 = some (.iload_n 1, 10, 0, 0, []) := rfl
theorem kc53_10 : zt_code 53 10 = some (.ireturn, 11, 0, 0, []) := rfl
theorem kc53_11 : zt_code 53 11 = some (.aload_n 0, 12, 0, 0, []) := rfl
theorem kc53_12 : zt_code 53 12 = some (.getfield 39, 15, 7, 3, []) := rfl
theorem kc53_15 : zt_code 53 15 = some (.getfield 68, 18, 6, 10, []) := rfl
theorem kc53_18 : zt_code 53 18 = some (.astore_n 2, 19, 0, 0, []) := rfl
theorem kc53_19 : zt_code 53 19 = some (.aload_n 2, 20, 0, 0, []) := rfl
theorem kc53_20 : zt_code 53 20 = some (.ifnonnull 6, 23, 26, 0, []) := rfl
theorem kc53_23 : zt_code 53 23 = some (.bipush (-2), 25, 0, 0, []) := rfl
theorem kc53_25 : zt_code 53 25 = some (.ireturn, 26, 0, 0, []) := rfl
theorem kc53_26 : zt_code 53 26 = some (.aload_n 2, 27, 0, 0, []) := rfl
theorem kc53_27 : zt_code 53 27 = some (.getfield 99, 30, 5, 1, []) := rfl
theorem kc53_30 : zt_code 53 30 = some (.iconst 2, 31, 0, 0, []) := rfl
theorem kc53_31 : zt_code 53 31 = some (.if_icmp .eq 6, 34, 37, 0, []) := rfl
theorem kc53_34 : zt_code 53 34 = some (.bipush (-4), 36, 0, 0, []) := rfl
theorem kc53_36 : zt_code 53 36 = some (.ireturn, 37, 0, 0, []) := rfl
theorem kc53_37 : zt_code 53 37 = some (.aload_n 2, 38, 0, 0, []) := rfl
theorem kc53_38 : zt_code 53 38 = some (.getfield 132, 41, 5, 4, []) := rfl
theorem kc53_41 : zt_code 53 41 = some (.ifCond .le 6, 44, 47, 0, []) := rfl
theorem kc53_44 : zt_code 53 44 = some (.bipush (-6), 46, 0, 0, []) := rfl
theorem kc53_46 : zt_code 53 46 = some (.ireturn, 47, 0, 0, []) := rfl
theorem kc53_47 : zt_code 53 47 = some (.aload_n 0, 48, 0, 0, []) := rfl
theorem kc53_48 : zt_code 53 48 = some (.aload_n 0, 49, 0, 0, []) := rfl
theorem kc53_49 : zt_code 53 49 = some (.getfield 39, 52, 7, 3, []) := rfl
theorem kc53_52 : zt_code 53 52 = some (.getfield 124, 55, 6, 9, []) := rfl
theorem kc53_55 : zt_code 53 55 = some (.invokevirtual 128, 58, 69, 1, []) := rfl
theorem kc53_58 : zt_code 53 58 = some (.aload_n 2, 59, 0, 0, []) := rfl
theorem kc53_59 : zt_code 53 59 = some (.getfield 92, 62, 5, 0, []) := rfl
theorem kc53_62 : zt_code 53 62 = some (.ireturn, 63, 0, 0, []) := rfl
theorem kc54_0 : zt_code 54 0 = some (.aload_n 0, 1, 0, 0, []) := rfl
theorem kc54_1 : zt_code 54 1 = some (.iconst 1, 2, 0, 0, []) := rfl
theorem kc54_2 : zt_code 54 2 = some (.invokevirtual 95, 5, 63, 1, []) := rfl
theorem kc54_5 : zt_code 54 5 = some (.istore_n 1, 6, 0, 0, []) := rfl
theorem kc54_6 : zt_code 54 6 = some (.iload_n 1, 7, 0, 0, []) := rfl
theorem kc54_7 : zt_code 54 7 = some (.ifCond .eq 5, 10, 12, 0, []) := rfl
theorem kc54_10 : zt_code 54 10 = some (.iload_n 1, 11, 0, 0, []) := rfl
theorem kc54_11 : zt_code 54 11 = some (.ireturn, 12, 0, 0, []) := rfl
theorem kc54_12 : zt_code 54 12 = some (.aload_n 0, 13, 0, 0, []) := rfl
theorem kc54_13 : zt_code 54 13 = some (.getfield 39, 16, 7, 3, []) := rfl
theorem kc54_16 : zt_code 54 16 = some (.getfield 68, 19, 6, 10, []) := rfl
theorem kc54_19 : zt_code 54 19 = some (.astore_n 2, 20, 0, 0, []) := rfl
theorem kc54_20 : zt_code 54 20 = some (.aload_n 2, 21, 0, 0, []) := rfl
theorem kc54_21 : zt_code 54 21 = some (.ifnonnull 6, 24, 27, 0, []) := rfl
theorem kc54_24 : zt_code 54 24 = some (.bipush (-2), 26, 0, 0, []) := rfl
theorem kc54_26 : zt_code 54 26 = some (.ireturn, 27, 0, 0, []) := rfl
theorem kc54_27 : zt_code 54 27 = some (.aload_n 0, 28, 0, 0, []) := rfl
theorem kc54_28 : zt_code 54 28 = some (.getfield 43, 31, 7, 4, []) := rfl
theorem kc54_31 : zt_code 54 31 = some (.getfield 68, 34, 6, 10, []) := rfl
theorem kc54_34 : zt_code 54 34 = some (.astore_n 3, 35, 0, 0, []) := rfl
theorem kc54_35 : zt_code 54 35 = some (.aload_n 3, 36, 0, 0, []) := rfl
theorem kc54_36 : zt_code 54 36 = some (.aload_n 2, 37, 0, 0, []) := rfl
theorem kc54_37 : zt_code 54 37 = some (.if_acmp .ne 8, 40, 45, 0, []) := rfl
theorem kc54_40 : zt_code 54 40 = some (.aload_n 2, 41, 0, 0, []) := rfl
theorem kc54_41 : zt_code 54 41 = some (.getfield 92, 44, 5, 0, []) := rfl
theorem kc54_44 : zt_code 54 44 = some (.ireturn, 45, 0, 0, []) := rfl
theorem kc54_45 : zt_code 54 45 = some (.aload_n 2, 46, 0, 0, []) := rfl
theorem kc54_46 : zt_code 54 46 = some (.getfield 99, 49, 5, 1, []) := rfl
theorem kc54_49 : zt_code 54 49 = some (.iconst 2, 50, 0, 0, []) := rfl
theorem kc54_50 : zt_code 54 50 = some (.if_icmp .ne 20, 53, 70, 0, []) := rfl
theorem kc54_53 : zt_code 54 53 = some (.aload_n 0, 54, 0, 0, []) := rfl
theorem kc54_54 : zt_code 54 54 = some (.getfield 43, 57, 7, 4, []) := rfl
theorem kc54_57 : zt_code 54 57 = some (.getfield 75, 60, 6, 8, []) := rfl
theorem kc54_60 : zt_code 54 60 = some (.aload_n 2, 61, 0, 0, []) := rfl
theorem kc54_61 : zt_code 54 61 = some (.invokestatic 135, 64, 68, 2, []) := rfl
theorem kc54_64 : zt_code 54 64 = some (.ifCond .eq 6, 67, 70, 0, []) := rfl
theorem kc54_67 : zt_code 54 67 = some (.bipush (-10), 69, 0, 0, []) := rfl
theorem kc54_69 : zt_code 54 69 = some (.ireturn, 70, 0, 0, []) := rfl
theorem kc54_70 : zt_code 54 70 = some (.aload_n 3, 71, 0, 0, []) := rfl
theorem kc54_71 : zt_code 54 71 = some (.ifnonnull 10, 74, 81, 0, []) := rfl
theorem kc54_74 : zt_code 54 74 = some (.aload_n 0, 75, 0, 0, []) := rfl
theorem kc54_75 : zt_code 54 75 = some (.invokevirtual 139, 78, 66, 0, []) := rfl
theorem kc54_78 : zt_code 54 78 = some (.goto 8, 81, 86, 0, []) := rfl
theorem kc54_81 : zt_code 54 81 = some (.aload_n 2, 82, 0, 0, []) := rfl
theorem kc54_82 : zt_code 54 82 = some (.aload_n 3, 83, 0, 0, []) := rfl
theorem kc54_83 : zt_code 54 83 = some (.invokestatic 142, 86, 67, 2, []) := rfl
theorem kc54_86 : zt_code 54 86 = some (.istore_n 1, 87, 0, 0, []) := rfl
theorem kc54_87 : zt_code 54 87 = some (.iload_n 1, 88, 0, 0, []) := rfl
theorem kc54_88 : zt_code 54 88 = some (.ifCond .eq 5, 91, 93, 0, []) := rfl
theorem kc54_91 : zt_code 54 91 = some (.iload_n 1, 92, 0, 0, []) := rfl
theorem kc54_92 : zt_code 54 92 = some (.ireturn, 93, 0, 0, []) := rfl
theorem kc54_93 : zt_code 54 93 = some (.aload_n 0, 94, 0, 0, []) := rfl
theorem kc54_94 : zt_code 54 94 = some (.aload_n 0, 95, 0, 0, []) := rfl
theorem kc54_95 : zt_code 54 95 = some (.getfield 43, 98, 7, 4, []) := rfl
theorem kc54_98 : zt_code 54 98 = some (.getfield 124, 101, 6, 9, []) := rfl
theorem kc54_101 : zt_code 54 101 = some (.invokevirtual 128, 104, 69, 1, []) := rfl
theorem kc54_104 : zt_code 54 104 = some (.aload_n 0, 105, 0, 0, []) := rfl
theorem kc54_105 : zt_code 54 105 = some (.getfield 26, 108, 7, 2, []) := rfl
theorem kc54_108 : zt_code 54 108 = some (.aload_n 0, 109, 0, 0, []) := rfl
theorem kc54_109 : zt_code 54 109 = some (.getfield 39, 112, 7, 3, []) := rfl
theorem kc54_112 : zt_code 54 112 = some (.getfield 124, 115, 6, 9, []) := rfl
theorem kc54_115 : zt_code 54 115 = some (.invokevirtual 146, 118, 13, 1, []) := rfl
theorem kc54_118 : zt_code 54 118 = some (.aload_n 0, 119, 0, 0, []) := rfl
theorem kc54_119 : zt_code 54 119 = some (.getfield 26, 122, 7, 2, []) := rfl
theorem kc54_122 : zt_code 54 122 = some (.aload_n 2, 123, 0, 0, []) := rfl
theorem kc54_123 : zt_code 54 123 = some (.aload_n 0, 124, 0, 0, []) := rfl
theorem kc54_124 : zt_code 54 124 = some (.getfield 43, 127, 7, 4, []) := rfl
theorem kc54_127 : zt_code 54 127 = some (.invokevirtual 88, 130, 12, 2, []) := rfl
theorem kc54_130 : zt_code 54 130 = some (.aload_n 2, 131, 0, 0, []) := rfl
theorem kc54_131 : zt_code 54 131 = some (.getfield 92, 134, 5, 0, []) := rfl
theorem kc54_134 : zt_code 54 134 = some (.ireturn, 135, 0, 0, []) := rfl
theorem kc55_0 : zt_code 55 0 = some (.aload_n 0, 1, 0, 0, []) := rfl
theorem kc55_1 : zt_code 55 1 = some (.iload_n 1, 2, 0, 0, []) := rfl
theorem kc55_2 : zt_code 55 2 = some (.invokevirtual 149, 5, 61, 1, []) := rfl
theorem kc55_5 : zt_code 55 5 = some (.istore_n 2, 6, 0, 0, []) := rfl
theorem kc55_6 : zt_code 55 6 = some (.iload_n 2, 7, 0, 0, []) := rfl
theorem kc55_7 : zt_code 55 7 = some (.ifCond .eq 5, 10, 12, 0, []) := rfl
theorem kc55_10 : zt_code 55 10 = some (.iload_n 2, 11, 0, 0, []) := rfl
theorem kc55_11 : zt_code 55 11 = some (.ireturn, 12, 0, 0, []) := rfl
theorem kc55_12 : zt_code 55 12 = some (.aload_n 0, 13, 0, 0, []) := rfl
theorem kc55_13 : zt_code 55 13 = some (.getfield 39, 16, 7, 3, []) := rfl
theorem kc55_16 : zt_code 55 16 = some (.getfield 68, 19, 6, 10, []) := rfl
theorem kc55_19 : zt_code 55 19 = some (.ifnonnull 8, 22, 27, 0, []) := rfl
theorem kc55_22 : zt_code 55 22 = some (.bipush (-2), 24, 0, 0, []) := rfl
theorem kc55_24 : zt_code 55 24 = some (.goto 13, 27, 37, 0, []) := rfl
theorem kc55_27 : zt_code 55 27 = some (.aload_n 0, 28, 0, 0, []) := rfl
theorem kc55_28 : zt_code 55 28 = some (.getfield 39, 31, 7, 3, []) := rfl
theorem kc55_31 : zt_code 55 31 = some (.getfield 68, 34, 6, 10, []) := rfl
theorem kc55_34 : zt_code 55 34 = some (.getfield 92, 37, 5, 0, []) := rfl
theorem kc55_37 : zt_code 55 37 = some (.ireturn, 38, 0, 0, []) := rfl
theorem kc56_0 : zt_code 56 0 = some (.aload_n 0, 1, 0, 0, []) := rfl
theorem kc56_1 : zt_code 56 1 = some (.iconst 1, 2, 0, 0, []) := rfl
theorem kc56_2 : zt_code 56 2 = some (.invokevirtual 149, 5, 61, 1, []) := rfl
theorem kc56_5 : zt_code 56 5 = some (.istore_n 1, 6, 0, 0, []) := rfl
theorem kc56_6 : zt_code 56 6 = some (.iload_n 1, 7, 0, 0, []) := rfl
theorem kc56_7 : zt_code 56 7 = some (.ifCond .eq 5, 10, 12, 0, []) := rfl
theorem kc56_10 : zt_code 56 10 = some (.iload_n 1, 11, 0, 0, []) := rfl
theorem kc56_11 : zt_code 56 11 = some (.ireturn, 12, 0, 0, []) := rfl
theorem kc56_12 : zt_code 56 12 = some (.aload_n 0, 13, 0, 0, []) := rfl
theorem kc56_13 : zt_code 56 13 = some (.getfield 39, 16, 7, 3, []) := rfl
theorem kc56_16 : zt_code 56 16 = some (.getfield 68, 19, 6, 10, []) := rfl
theorem kc56_19 : zt_code 56 19 = some (.astore_n 2, 20, 0, 0, []) := rfl
theorem kc56_20 : zt_code 56 20 = some (.aload_n 2, 21, 0, 0, []) := rfl
theorem kc56_21 : zt_code 56 21 = some (.ifnonnull 6, 24, 27, 0, []) := rfl
theorem kc56_24 : zt_code 56 24 = some (.bipush (-2), 26, 0, 0, []) := rfl
theorem kc56_26 : zt_code 56 26 = some (.ireturn, 27, 0, 0, []) := rfl
theorem kc56_27 : zt_code 56 27 = some (.aload_n 2, 28, 0, 0, []) := rfl
theorem kc56_28 : zt_code 56 28 = some (.getfield 99, 31, 5, 1, []) := rfl
theorem kc56_31 : zt_code 56 31 = some (.iconst 1, 32, 0, 0, []) := rfl
theorem kc56_32 : zt_code 56 32 = some (.if_icmp .ne 12, 35, 44, 0, []) := rfl
theorem kc56_35 : zt_code 56 35 = some (.aload_n 2, 36, 0, 0, []) := rfl
theorem kc56_36 : zt_code 56 36 = some (.getfield 152, 39, 5, 3, []) := rfl
theorem kc56_39 : zt_code 56 39 = some (.bipush 100, 41, 0, 0, []) := rfl
theorem kc56_41 : zt_code 56 41 = some (.if_icmp .lt 5, 44, 46, 0, []) := rfl
theorem kc56_44 : zt_code 56 44 = some (.iconst (-1), 45, 0, 0, []) := rfl
theorem kc56_45 : zt_code 56 45 = some (.ireturn, 46, 0, 0, []) := rfl
theorem kc56_46 : zt_code 56 46 = some (.aload_n 2, 47, 0, 0, []) := rfl
theorem kc56_47 : zt_code 56 47 = some (.dup, 48, 0, 0, []) := rfl
theorem kc56_48 : zt_code 56 48 = some (.getfield 152, 51, 5, 3, []) := rfl
theorem kc56_51 : zt_code 56 51 = some (.iconst 1, 52, 0, 0, []) := rfl
theorem kc56_52 : zt_code 56 52 = some (.iadd, 53, 0, 0, []) := rfl
theorem kc56_53 : zt_code 56 53 = some (.putfield 152, 56, 5, 3, []) := rfl
theorem kc56_56 : zt_code 56 56 = some (.aload_n 2, 57, 0, 0, []) := rfl
theorem kc56_57 : zt_code 56 57 = some (.getfield 92, 60, 5, 0, []) := rfl
theorem kc56_60 : zt_code 56 60 = some (.ireturn, 61, 0, 0, []) := rfl
theorem kc57_0 : zt_code 57 0 = some (.aload_n 0, 1, 0, 0, []) := rfl
theorem kc57_1 : zt_code 57 1 = some (.getfield 19, 4, 7, 1, []) := rfl
theorem kc57_4 : zt_code 57 4 = some (.iload_n 1, 5, 0, 0, []) := rfl
theorem kc57_5 : zt_code 57 5 = some (.invokevirtual 155, 8, 2, 1, []) := rfl
theorem kc57_8 : zt_code 57 8 = some (.astore_n 2, 9, 0, 0, []) := rfl
theorem kc57_9 : zt_code 57 9 = some (.aload_n 2, 10, 0, 0, []) := rfl
theorem kc57_10 : zt_code 57 10 = some (.ifnull 11, 13, 21, 0, []) := rfl
theorem kc57_13 : zt_code 57 13 = some (.aload_n 2, 14, 0, 0, []) := rfl
theorem kc57_14 : zt_code 57 14 = some (.getfield 152, 17, 5, 3, []) := rfl
theorem kc57_17 : zt_code 57 17 = some (.iconst 1, 18, 0, 0, []) := rfl
theorem kc57_18 : zt_code 57 18 = some (.if_icmp .ge 5, 21, 23, 0, []) := rfl
theorem kc57_21 : zt_code 57 21 = some (.iconst (-1), 22, 0, 0, []) := rfl
theorem kc57_22 : zt_code 57 22 = some (.ireturn, 23, 0, 0, []) := rfl
theorem kc57_23 : zt_code 57 23 = some (.aload_n 2, 24, 0, 0, []) := rfl
theorem kc57_24 : zt_code 57 24 = some (.dup, 25, 0, 0, []) := rfl
theorem kc57_25 : zt_code 57 25 = some (.getfield 152, 28, 5, 3, []) := rfl
theorem kc57_28 : zt_code 57 28 = some (.iconst 1, 29, 0, 0, []) := rfl
theorem kc57_29 : zt_code 57 29 = some (.isub, 30, 0, 0, []) := rfl
theorem kc57_30 : zt_code 57 30 = some (.putfield 152, 33, 5, 3, []) := rfl
theorem kc57_33 : zt_code 57 33 = some (.aload_n 2, 34, 0, 0, []) := rfl
theorem kc57_34 : zt_code 57 34 = some (.getfield 159, 37, 5, 2, []) := rfl
theorem kc57_37 : zt_code 57 37 = some (.istore_n 3, 38, 0, 0, []) := rfl
theorem kc57_38 : zt_code 57 38 = some (.aload_n 2, 39, 0, 0, []) := rfl
theorem kc57_39 : zt_code 57 39 = some (.invokevirtual 161, 42, 33, 0, []) := rfl
theorem kc57_42 : zt_code 57 42 = some (.iload_n 3, 43, 0, 0, []) := rfl
theorem kc57_43 : zt_code 57 43 = some (.ireturn, 44, 0, 0, []) := rfl
theorem kc58_0 : zt_code 58 0 = some (.aload_n 0, 1, 0, 0, []) := rfl
theorem kc58_1 : zt_code 58 1 = some (.getfield 19, 4, 7, 1, []) := rfl
theorem kc58_4 : zt_code 58 4 = some (.iload_n 1, 5, 0, 0, []) := rfl
theorem kc58_5 : zt_code 58 5 = some (.invokevirtual 155, 8, 2, 1, []) := rfl
theorem kc58_8 : zt_code 58 8 = some (.astore_n 3, 9, 0, 0, []) := rfl
theorem kc58_9 : zt_code 58 9 = some (.aload_n 3, 10, 0, 0, []) := rfl
theorem kc58_10 : zt_code 58 10 = some (.ifnonnull 5, 13, 15, 0, []) := rfl
theorem kc58_13 : zt_code 58 13 = some (.iconst (-1), 14, 0, 0, []) := rfl
theorem kc58_14 : zt_code 58 14 = some (.ireturn, 15, 0, 0, []) := rfl
theorem kc58_15 : zt_code 58 15 = some (.iload_n 2, 16, 0, 0, []) := rfl
theorem kc58_16 : zt_code 58 16 = some (.tableswitch 96 0 4 #[36, 41, 67, 72, 77], 52, 112, 0, [(0, 52), (1, 57), (2, 83), (3, 88), (4, 93)]) := rfl
theorem kc58_52 : zt_code 58 52 = some (.aload_n 3, 53, 0, 0, []) := rfl
theorem kc58_53 : zt_code 58 53 = some (.getfield 99, 56, 5, 1, []) := rfl
theorem kc58_56 : zt_code 58 56 = some (.ireturn, 57, 0, 0, []) := rfl
theorem kc58_57 : zt_code 58 57 = some (.aload_n 3, 58, 0, 0, []) := rfl
theorem kc58_58 : zt_code 58 58 = some (.getfield 99, 61, 5, 1, []) := rfl
theorem kc58_61 : zt_code 58 61 = some (.iconst 2, 62, 0, 0, []) := rfl
theorem kc58_62 : zt_code 58 62 = some (.if_icmp .ne 16, 65, 78, 0, []) := rfl
theorem kc58_65 : zt_code 58 65 = some (.iconst 2, 66, 0, 0, []) := rfl
theorem kc58_66 : zt_code 58 66 = some (.aload_n 0, 67, 0, 0, []) := rfl
theorem kc58_67 : zt_code 58 67 = some (.getfield 19, 70, 7, 1, []) := rfl
theorem kc58_70 : zt_code 58 70 = some (.aload_n 3, 71, 0, 0, []) := rfl
theorem kc58_71 : zt_code 58 71 = some (.invokevirtual 164, 74, 6, 1, []) := rfl
theorem kc58_74 : zt_code 58 74 = some (.iadd, 75, 0, 0, []) := rfl
theorem kc58_75 : zt_code 58 75 = some (.goto 7, 78, 82, 0, []) := rfl
theorem kc58_78 : zt_code 58 78 = some (.aload_n 3, 79, 0, 0, []) := rfl
theorem kc58_79 : zt_code 58 79 = some (.getfield 159, 82, 5, 2, []) := rfl
theorem kc58_82 : zt_code 58 82 = some (.ireturn, 83, 0, 0, []) := rfl
theorem kc58_83 : zt_code 58 83 = some (.aload_n 3, 84, 0, 0, []) := rfl
theorem kc58_84 : zt_code 58 84 = some (.invokevirtual 168, 87, 32, 0, []) := rfl
theorem kc58_87 : zt_code 58 87 = some (.ireturn, 88, 0, 0, []) := rfl
theorem kc58_88 : zt_code 58 88 = some (.aload_n 3, 89, 0, 0, []) := rfl
theorem kc58_89 : zt_code 58 89 = some (.invokevirtual 171, 92, 30, 0, []) := rfl
theorem kc58_92 : zt_code 58 92 = some (.ireturn, 93, 0, 0, []) := rfl
theorem kc58_93 : zt_code 58 93 = some (.aload_n 3, 94, 0, 0, []) := rfl
theorem kc58_94 : zt_code 58 94 = some (.getfield 174, 97, 5, 6, []) := rfl
theorem kc58_97 : zt_code 58 97 = some (.ifnonnull 7, 100, 104, 0, []) := rfl
theorem kc58_100 : zt_code 58 100 = some (.iconst 0, 101, 0, 0, []) := rfl
theorem kc58_101 : zt_code 58 101 = some (.goto 10, 104, 111, 0, []) := rfl
theorem kc58_104 : zt_code 58 104 = some (.aload_n 3, 105, 0, 0, []) := rfl
theorem kc58_105 : zt_code 58 105 = some (.getfield 174, 108, 5, 6, []) := rfl
theorem kc58_108 : zt_code 58 108 = some (.getfield 92, 111, 5, 0, []) := rfl
theorem kc58_111 : zt_code 58 111 = some (.ireturn, 112, 0, 0, []) := rfl
theorem kc58_112 : zt_code 58 112 = some (.iconst (-1), 113, 0, 0, []) := rfl
theorem kc58_113 : zt_code 58 113 = some (.ireturn, 114, 0, 0, []) := rfl
theorem kc59_0 : zt_code 59 0 = some (.aload_n 0, 1, 0, 0, []) := rfl
theorem kc59_1 : zt_code 59 1 = some (.getfield 19, 4, 7, 1, []) := rfl
theorem kc59_4 : zt_code 59 4 = some (.iload_n 1, 5, 0, 0, []) := rfl
theorem kc59_5 : zt_code 59 5 = some (.invokevirtual 155, 8, 2, 1, []) := rfl
theorem kc59_8 : zt_code 59 8 = some (.astore_n 3, 9, 0, 0, []) := rfl
theorem kc59_9 : zt_code 59 9 = some (.aload_n 3, 10, 0, 0, []) := rfl
theorem kc59_10 : zt_code 59 10 = some (.ifnonnull 7, 13, 17, 0, []) := rfl
theorem kc59_13 : zt_code 59 13 = some (.iconst (-1), 14, 0, 0, []) := rfl
theorem kc59_14 : zt_code 59 14 = some (.goto 8, 17, 22, 0, []) := rfl
theorem kc59_17 : zt_code 59 17 = some (.aload_n 3, 18, 0, 0, []) := rfl
theorem kc59_18 : zt_code 59 18 = some (.iload_n 2, 19, 0, 0, []) := rfl
theorem kc59_19 : zt_code 59 19 = some (.invokevirtual 177, 22, 29, 1, []) := rfl
theorem kc59_22 : zt_code 59 22 = some (.ireturn, 23, 0, 0, []) := rfl
theorem kc60_0 : zt_code 60 0 = some (.iload_n 1, 1, 0, 0, []) := rfl
theorem kc60_1 : zt_code 60 1 = some (.tableswitch 63 0 3 #[31, 39, 47, 55], 32, 64, 0, [(0, 32), (1, 40), (2, 48), (3, 56)]) := rfl
theorem kc60_32 : zt_code 60 32 = some (.aload_n 0, 33, 0, 0, []) := rfl
theorem kc60_33 : zt_code 60 33 = some (.getfield 19, 36, 7, 1, []) := rfl
theorem kc60_36 : zt_code 60 36 = some (.invokevirtual 180, 39, 4, 0, []) := rfl
theorem kc60_39 : zt_code 60 39 = some (.ireturn, 40, 0, 0, []) := rfl
theorem kc60_40 : zt_code 60 40 = some (.aload_n 0, 41, 0, 0, []) := rfl
theorem kc60_41 : zt_code 60 41 = some (.getfield 26, 44, 7, 2, []) := rfl
theorem kc60_44 : zt_code 60 44 = some (.getfield 183, 47, 2, 1, []) := rfl
theorem kc60_47 : zt_code 60 47 = some (.ireturn, 48, 0, 0, []) := rfl
theorem kc60_48 : zt_code 60 48 = some (.aload_n 0, 49, 0, 0, []) := rfl
theorem kc60_49 : zt_code 60 49 = some (.getfield 10, 52, 7, 0, []) := rfl
theorem kc60_52 : zt_code 60 52 = some (.getfield 58, 55, 4, 1, []) := rfl
theorem kc60_55 : zt_code 60 55 = some (.ireturn, 56, 0, 0, []) := rfl
theorem kc60_56 : zt_code 60 56 = some (.aload_n 0, 57, 0, 0, []) := rfl
theorem kc60_57 : zt_code 60 57 = some (.getfield 19, 60, 7, 1, []) := rfl
theorem kc60_60 : zt_code 60 60 = some (.invokevirtual 61, 63, 5, 0, []) := rfl
theorem kc60_63 : zt_code 60 63 = some (.ireturn, 64, 0, 0, []) := rfl
theorem kc60_64 : zt_code 60 64 = some (.iconst (-1), 65, 0, 0, []) := rfl
theorem kc60_65 : zt_code 60 65 = some (.ireturn, 66, 0, 0, []) := rfl
theorem kc61_0 : zt_code 61 0 = some (.aload_n 0, 1, 0, 0, []) := rfl
theorem kc61_1 : zt_code 61 1 = some (.getfield 10, 4, 7, 0, []) := rfl
theorem kc61_4 : zt_code 61 4 = some (.invokevirtual 102, 7, 22, 0, []) := rfl
theorem kc61_7 : zt_code 61 7 = some (.istore_n 2, 8, 0, 0, []) := rfl
theorem kc61_8 : zt_code 61 8 = some (.aload_n 0, 9, 0, 0, []) := rfl
theorem kc61_9 : zt_code 61 9 = some (.getfield 10, 12, 7, 0, []) := rfl
theorem kc61_12 : zt_code 61 12 = some (.iload_n 2, 13, 0, 0, []) := rfl
theorem kc61_13 : zt_code 61 13 = some (.invokevirtual 186, 16, 23, 1, []) := rfl
theorem kc61_16 : zt_code 61 16 = some (.ifCond .eq 7, 19, 23, 0, []) := rfl
theorem kc61_19 : zt_code 61 19 = some (.iconst (-1), 20, 0, 0, []) := rfl
theorem kc61_20 : zt_code 61 20 = some (.goto 20, 23, 40, 0, []) := rfl
theorem kc61_23 : zt_code 61 23 = some (.aload_n 0, 24, 0, 0, []) := rfl
theorem kc61_24 : zt_code 61 24 = some (.getfield 39, 27, 7, 3, []) := rfl
theorem kc61_27 : zt_code 61 27 = some (.aload_n 0, 28, 0, 0, []) := rfl
theorem kc61_28 : zt_code 61 28 = some (.getfield 10, 31, 7, 0, []) := rfl
theorem kc61_31 : zt_code 61 31 = some (.getfield 109, 34, 4, 0, []) := rfl
theorem kc61_34 : zt_code 61 34 = some (.iconst 0, 35, 0, 0, []) := rfl
theorem kc61_35 : zt_code 61 35 = some (.iload_n 2, 36, 0, 0, []) := rfl
theorem kc61_36 : zt_code 61 36 = some (.iload_n 1, 37, 0, 0, []) := rfl
theorem kc61_37 : zt_code 61 37 = some (.invokevirtual 189, 40, 36, 4, []) := rfl
theorem kc61_40 : zt_code 61 40 = some (.ireturn, 41, 0, 0, []) := rfl
theorem kc62_0 : zt_code 62 0 = some (.aload_n 0, 1, 0, 0, []) := rfl
theorem kc62_1 : zt_code 62 1 = some (.getfield 10, 4, 7, 0, []) := rfl
theorem kc62_4 : zt_code 62 4 = some (.invokevirtual 102, 7, 22, 0, []) := rfl
theorem kc62_7 : zt_code 62 7 = some (.istore_n 1, 8, 0, 0, []) := rfl
theorem kc62_8 : zt_code 62 8 = some (.aload_n 0, 9, 0, 0, []) := rfl
theorem kc62_9 : zt_code 62 9 = some (.getfield 10, 12, 7, 0, []) := rfl
theorem kc62_12 : zt_code 62 12 = some (.iload_n 1, 13, 0, 0, []) := rfl
theorem kc62_13 : zt_code 62 13 = some (.invokevirtual 186, 16, 23, 1, []) := rfl
theorem kc62_16 : zt_code 62 16 = some (.ifCond .eq 7, 19, 23, 0, []) := rfl
theorem kc62_19 : zt_code 62 19 = some (.iconst (-1), 20, 0, 0, []) := rfl
theorem kc62_20 : zt_code 62 20 = some (.goto 19, 23, 39, 0, []) := rfl
theorem kc62_23 : zt_code 62 23 = some (.aload_n 0, 24, 0, 0, []) := rfl
theorem kc62_24 : zt_code 62 24 = some (.getfield 39, 27, 7, 3, []) := rfl
theorem kc62_27 : zt_code 62 27 = some (.aload_n 0, 28, 0, 0, []) := rfl
theorem kc62_28 : zt_code 62 28 = some (.getfield 10, 31, 7, 0, []) := rfl
theorem kc62_31 : zt_code 62 31 = some (.getfield 109, 34, 4, 0, []) := rfl
theorem kc62_34 : zt_code 62 34 = some (.iconst 0, 35, 0, 0, []) := rfl
theorem kc62_35 : zt_code 62 35 = some (.iload_n 1, 36, 0, 0, []) := rfl
theorem kc62_36 : zt_code 62 36 = some (.invokevirtual 113, 39, 35, 3, []) := rfl
theorem kc62_39 : zt_code 62 39 = some (.ireturn, 40, 0, 0, []) := rfl
theorem kc63_0 : zt_code 63 0 = some (.aload_n 0, 1, 0, 0, []) := rfl
theorem kc63_1 : zt_code 63 1 = some (.getfield 10, 4, 7, 0, []) := rfl
theorem kc63_4 : zt_code 63 4 = some (.invokevirtual 102, 7, 22, 0, []) := rfl
theorem kc63_7 : zt_code 63 7 = some (.istore_n 2, 8, 0, 0, []) := rfl
theorem kc63_8 : zt_code 63 8 = some (.aload_n 0, 9, 0, 0, []) := rfl
theorem kc63_9 : zt_code 63 9 = some (.getfield 10, 12, 7, 0, []) := rfl
theorem kc63_12 : zt_code 63 12 = some (.iload_n 2, 13, 0, 0, []) := rfl
theorem kc63_13 : zt_code 63 13 = some (.invokevirtual 105, 16, 24, 1, []) := rfl
theorem kc63_16 : zt_code 63 16 = some (.istore_n 3, 17, 0, 0, []) := rfl
theorem kc63_17 : zt_code 63 17 = some (.iload_n 3, 18, 0, 0, []) := rfl
theorem kc63_18 : zt_code 63 18 = some (.ifCond .ge 5, 21, 23, 0, []) := rfl
theorem kc63_21 : zt_code 63 21 = some (.iconst (-1), 22, 0, 0, []) := rfl
theorem kc63_22 : zt_code 63 22 = some (.ireturn, 23, 0, 0, []) := rfl
theorem kc63_23 : zt_code 63 23 = some (.iload_n 1, 24, 0, 0, []) := rfl
theorem kc63_24 : zt_code 63 24 = some (.ifCond .eq 22, 27, 46, 0, []) := rfl
theorem kc63_27 : zt_code 63 27 = some (.aload_n 0, 28, 0, 0, []) := rfl
theorem kc63_28 : zt_code 63 28 = some (.getfield 39, 31, 7, 3, []) := rfl
theorem kc63_31 : zt_code 63 31 = some (.aload_n 0, 32, 0, 0, []) := rfl
theorem kc63_32 : zt_code 63 32 = some (.getfield 10, 35, 7, 0, []) := rfl
theorem kc63_35 : zt_code 63 35 = some (.getfield 109, 38, 4, 0, []) := rfl
theorem kc63_38 : zt_code 63 38 = some (.iconst 0, 39, 0, 0, []) := rfl
theorem kc63_39 : zt_code 63 39 = some (.iload_n 3, 40, 0, 0, []) := rfl
theorem kc63_40 : zt_code 63 40 = some (.invokevirtual 113, 43, 35, 3, []) := rfl
theorem kc63_43 : zt_code 63 43 = some (.goto 20, 46, 63, 0, []) := rfl
theorem kc63_46 : zt_code 63 46 = some (.aload_n 0, 47, 0, 0, []) := rfl
theorem kc63_47 : zt_code 63 47 = some (.getfield 39, 50, 7, 3, []) := rfl
theorem kc63_50 : zt_code 63 50 = some (.aload_n 0, 51, 0, 0, []) := rfl
theorem kc63_51 : zt_code 63 51 = some (.getfield 10, 54, 7, 0, []) := rfl
theorem kc63_54 : zt_code 63 54 = some (.getfield 109, 57, 4, 0, []) := rfl
theorem kc63_57 : zt_code 63 57 = some (.iconst 0, 58, 0, 0, []) := rfl
theorem kc63_58 : zt_code 63 58 = some (.iload_n 3, 59, 0, 0, []) := rfl
theorem kc63_59 : zt_code 63 59 = some (.iconst 0, 60, 0, 0, []) := rfl
theorem kc63_60 : zt_code 63 60 = some (.invokevirtual 189, 63, 36, 4, []) := rfl
theorem kc63_63 : zt_code 63 63 = some (.istore 4, 65, 0, 0, []) := rfl
theorem kc63_65 : zt_code 63 65 = some (.iload 4, 67, 0, 0, []) := rfl
theorem kc63_67 : zt_code 63 67 = some (.ifCond .eq 8, 70, 75, 0, []) := rfl
theorem kc63_70 : zt_code 63 70 = some (.iload 4, 72, 0, 0, []) := rfl
theorem kc63_72 : zt_code 63 72 = some (.goto 21, 75, 93, 0, []) := rfl
theorem kc63_75 : zt_code 63 75 = some (.aload_n 0, 76, 0, 0, []) := rfl
theorem kc63_76 : zt_code 63 76 = some (.getfield 43, 79, 7, 4, []) := rfl
theorem kc63_79 : zt_code 63 79 = some (.aload_n 0, 80, 0, 0, []) := rfl
theorem kc63_80 : zt_code 63 80 = some (.getfield 10, 83, 7, 0, []) := rfl
theorem kc63_83 : zt_code 63 83 = some (.getfield 109, 86, 4, 0, []) := rfl
theorem kc63_86 : zt_code 63 86 = some (.iload_n 3, 87, 0, 0, []) := rfl
theorem kc63_87 : zt_code 63 87 = some (.iconst 1, 88, 0, 0, []) := rfl
theorem kc63_88 : zt_code 63 88 = some (.iadd, 89, 0, 0, []) := rfl
theorem kc63_89 : zt_code 63 89 = some (.iload_n 2, 90, 0, 0, []) := rfl
theorem kc63_90 : zt_code 63 90 = some (.invokevirtual 113, 93, 35, 3, []) := rfl
theorem kc63_93 : zt_code 63 93 = some (.ireturn, 94, 0, 0, []) := rfl
theorem kc64_0 : zt_code 64 0 = some (.aload_n 0, 1, 0, 0, []) := rfl
theorem kc64_1 : zt_code 64 1 = some (.getfield 26, 4, 7, 2, []) := rfl
theorem kc64_4 : zt_code 64 4 = some (.getfield 183, 7, 2, 1, []) := rfl
theorem kc64_7 : zt_code 64 7 = some (.bipush 60, 9, 0, 0, []) := rfl
theorem kc64_9 : zt_code 64 9 = some (.if_icmp .ge 12, 12, 21, 0, []) := rfl
theorem kc64_12 : zt_code 64 12 = some (.aload_n 0, 13, 0, 0, []) := rfl
theorem kc64_13 : zt_code 64 13 = some (.aload_n 1, 14, 0, 0, []) := rfl
theorem kc64_14 : zt_code 64 14 = some (.iload_n 2, 15, 0, 0, []) := rfl
theorem kc64_15 : zt_code 64 15 = some (.invokevirtual 193, 18, 65, 2, []) := rfl
theorem kc64_18 : zt_code 64 18 = some (.ifCond .eq 7, 21, 25, 0, []) := rfl
theorem kc64_21 : zt_code 64 21 = some (.iconst 1, 22, 0, 0, []) := rfl
theorem kc64_22 : zt_code 64 22 = some (.goto 4, 25, 26, 0, []) := rfl
theorem kc64_25 : zt_code 64 25 = some (.iconst 0, 26, 0, 0, []) := rfl
theorem kc64_26 : zt_code 64 26 = some (.ireturn, 27, 0, 0, []) := rfl
theorem kc65_0 : zt_code 65 0 = some (.aload_n 1, 1, 0, 0, []) := rfl
theorem kc65_1 : zt_code 65 1 = some (.ifnonnull 7, 4, 8, 0, []) := rfl
theorem kc65_4 : zt_code 65 4 = some (.iconst 0, 5, 0, 0, []) := rfl
theorem kc65_5 : zt_code 65 5 = some (.goto 7, 8, 12, 0, []) := rfl
theorem kc65_8 : zt_code 65 8 = some (.aload_n 1, 9, 0, 0, []) := rfl
theorem kc65_9 : zt_code 65 9 = some (.invokevirtual 196, 12, 31, 0, []) := rfl
theorem kc65_12 : zt_code 65 12 = some (.istore_n 3, 13, 0, 0, []) := rfl
theorem kc65_13 : zt_code 65 13 = some (.aload_n 0, 14, 0, 0, []) := rfl
theorem kc65_14 : zt_code 65 14 = some (.getfield 19, 17, 7, 1, []) := rfl
theorem kc65_17 : zt_code 65 17 = some (.invokevirtual 61, 20, 5, 0, []) := rfl
theorem kc65_20 : zt_code 65 20 = some (.iload_n 2, 21, 0, 0, []) := rfl
theorem kc65_21 : zt_code 65 21 = some (.iadd, 22, 0, 0, []) := rfl
theorem kc65_22 : zt_code 65 22 = some (.iload_n 3, 23, 0, 0, []) := rfl
theorem kc65_23 : zt_code 65 23 = some (.iadd, 24, 0, 0, []) := rfl
theorem kc65_24 : zt_code 65 24 = some (.aload_n 0, 25, 0, 0, []) := rfl
theorem kc65_25 : zt_code 65 25 = some (.getfield 46, 28, 7, 5, []) := rfl
theorem kc65_28 : zt_code 65 28 = some (.if_icmp .le 7, 31, 35, 0, []) := rfl
theorem kc65_31 : zt_code 65 31 = some (.iconst 1, 32, 0, 0, []) := rfl
theorem kc65_32 : zt_code 65 32 = some (.goto 4, 35, 36, 0, []) := rfl
theorem kc65_35 : zt_code 65 35 = some (.iconst 0, 36, 0, 0, []) := rfl
theorem kc65_36 : zt_code 65 36 = some (.ireturn, 37, 0, 0, []) := rfl
theorem kc66_0 : zt_code 66 0 = some (.aload_n 0, 1, 0, 0, []) := rfl
theorem kc66_1 : zt_code 66 1 = some (.getfield 39, 4, 7, 3, []) := rfl
theorem kc66_4 : zt_code 66 4 = some (.getfield 75, 7, 6, 8, []) := rfl
theorem kc66_7 : zt_code 66 7 = some (.aload_n 0, 8, 0, 0, []) := rfl
theorem kc66_8 : zt_code 66 8 = some (.getfield 43, 11, 7, 4, []) := rfl
theorem kc66_11 : zt_code 66 11 = some (.getfield 75, 14, 6, 8, []) := rfl
theorem kc66_14 : zt_code 66 14 = some (.if_acmp .ne 7, 17, 21, 0, []) := rfl
theorem kc66_17 : zt_code 66 17 = some (.iconst 1, 18, 0, 0, []) := rfl
theorem kc66_18 : zt_code 66 18 = some (.goto 4, 21, 22, 0, []) := rfl
theorem kc66_21 : zt_code 66 21 = some (.iconst 0, 22, 0, 0, []) := rfl
theorem kc66_22 : zt_code 66 22 = some (.istore_n 1, 23, 0, 0, []) := rfl
theorem kc66_23 : zt_code 66 23 = some (.iload_n 1, 24, 0, 0, []) := rfl
theorem kc66_24 : zt_code 66 24 = some (.ifCond .ne 23, 27, 47, 0, []) := rfl
theorem kc66_27 : zt_code 66 27 = some (.aload_n 0, 28, 0, 0, []) := rfl
theorem kc66_28 : zt_code 66 28 = some (.aload_n 0, 29, 0, 0, []) := rfl
theorem kc66_29 : zt_code 66 29 = some (.getfield 43, 32, 7, 4, []) := rfl
theorem kc66_32 : zt_code 66 32 = some (.getfield 75, 35, 6, 8, []) := rfl
theorem kc66_35 : zt_code 66 35 = some (.iconst 0, 36, 0, 0, []) := rfl
theorem kc66_36 : zt_code 66 36 = some (.invokevirtual 193, 39, 65, 2, []) := rfl
theorem kc66_39 : zt_code 66 39 = some (.ifCond .eq 8, 42, 47, 0, []) := rfl
theorem kc66_42 : zt_code 66 42 = some (.bipush (-7), 44, 0, 0, []) := rfl
theorem kc66_44 : zt_code 66 44 = some (.goto 4, 47, 48, 0, []) := rfl
theorem kc66_47 : zt_code 66 47 = some (.iconst 0, 48, 0, 0, []) := rfl
theorem kc66_48 : zt_code 66 48 = some (.ireturn, 49, 0, 0, []) := rfl
theorem kc67_0 : zt_code 67 0 = some (.aload_n 0, 1, 0, 0, []) := rfl
theorem kc67_1 : zt_code 67 1 = some (.getfield 99, 4, 5, 1, []) := rfl
theorem kc67_4 : zt_code 67 4 = some (.iconst 2, 5, 0, 0, []) := rfl
theorem kc67_5 : zt_code 67 5 = some (.if_icmp .ne 14, 8, 19, 0, []) := rfl
theorem kc67_8 : zt_code 67 8 = some (.aload_n 1, 9, 0, 0, []) := rfl
theorem kc67_9 : zt_code 67 9 = some (.getfield 99, 12, 5, 1, []) := rfl
theorem kc67_12 : zt_code 67 12 = some (.iconst 2, 13, 0, 0, []) := rfl
theorem kc67_13 : zt_code 67 13 = some (.if_icmp .eq 6, 16, 19, 0, []) := rfl
theorem kc67_16 : zt_code 67 16 = some (.bipush (-4), 18, 0, 0, []) := rfl
theorem kc67_18 : zt_code 67 18 = some (.ireturn, 19, 0, 0, []) := rfl
theorem kc67_19 : zt_code 67 19 = some (.aload_n 0, 20, 0, 0, []) := rfl
theorem kc67_20 : zt_code 67 20 = some (.getfield 99, 23, 5, 1, []) := rfl
theorem kc67_23 : zt_code 67 23 = some (.iconst 2, 24, 0, 0, []) := rfl
theorem kc67_24 : zt_code 67 24 = some (.if_icmp .eq 14, 27, 38, 0, []) := rfl
theorem kc67_27 : zt_code 67 27 = some (.aload_n 1, 28, 0, 0, []) := rfl
theorem kc67_28 : zt_code 67 28 = some (.getfield 99, 31, 5, 1, []) := rfl
theorem kc67_31 : zt_code 67 31 = some (.iconst 2, 32, 0, 0, []) := rfl
theorem kc67_32 : zt_code 67 32 = some (.if_icmp .ne 6, 35, 38, 0, []) := rfl
theorem kc67_35 : zt_code 67 35 = some (.bipush (-5), 37, 0, 0, []) := rfl
theorem kc67_37 : zt_code 67 37 = some (.ireturn, 38, 0, 0, []) := rfl
theorem kc67_38 : zt_code 67 38 = some (.aload_n 1, 39, 0, 0, []) := rfl
theorem kc67_39 : zt_code 67 39 = some (.getfield 132, 42, 5, 4, []) := rfl
theorem kc67_42 : zt_code 67 42 = some (.ifCond .le 8, 45, 50, 0, []) := rfl
theorem kc67_45 : zt_code 67 45 = some (.bipush (-6), 47, 0, 0, []) := rfl
theorem kc67_47 : zt_code 67 47 = some (.goto 4, 50, 51, 0, []) := rfl
theorem kc67_50 : zt_code 67 50 = some (.iconst 0, 51, 0, 0, []) := rfl
theorem kc67_51 : zt_code 67 51 = some (.ireturn, 52, 0, 0, []) := rfl
theorem kc68_0 : zt_code 68 0 = some (.aload_n 0, 1, 0, 0, []) := rfl
theorem kc68_1 : zt_code 68 1 = some (.astore_n 2, 2, 0, 0, []) := rfl
theorem kc68_2 : zt_code 68 2 = some (.iconst 0, 3, 0, 0, []) := rfl
theorem kc68_3 : zt_code 68 3 = some (.istore_n 3, 4, 0, 0, []) := rfl
theorem kc68_4 : zt_code 68 4 = some (.iload_n 3, 5, 0, 0, []) := rfl
theorem kc68_5 : zt_code 68 5 = some (.bipush 40, 7, 0, 0, []) := rfl
theorem kc68_7 : zt_code 68 7 = some (.if_icmp .ge 25, 10, 32, 0, []) := rfl
theorem kc68_10 : zt_code 68 10 = some (.aload_n 2, 11, 0, 0, []) := rfl
theorem kc68_11 : zt_code 68 11 = some (.ifnull 21, 14, 32, 0, []) := rfl
theorem kc68_14 : zt_code 68 14 = some (.aload_n 2, 15, 0, 0, []) := rfl
theorem kc68_15 : zt_code 68 15 = some (.aload_n 1, 16, 0, 0, []) := rfl
theorem kc68_16 : zt_code 68 16 = some (.if_acmp .ne 5, 19, 21, 0, []) := rfl
theorem kc68_19 : zt_code 68 19 = some (.iconst 1, 20, 0, 0, []) := rfl
theorem kc68_20 : zt_code 68 20 = some (.ireturn, 21, 0, 0, []) := rfl
theorem kc68_21 : zt_code 68 21 = some (.aload_n 2, 22, 0, 0, []) := rfl
theorem kc68_22 : zt_code 68 22 = some (.getfield 174, 25, 5, 6, []) := rfl
theorem kc68_25 : zt_code 68 25 = some (.astore_n 2, 26, 0, 0, []) := rfl
theorem kc68_26 : zt_code 68 26 = some (.iinc 3 1, 29, 0, 0, []) := rfl
theorem kc68_29 : zt_code 68 29 = some (.goto (-25), 32, 4, 0, []) := rfl
theorem kc68_32 : zt_code 68 32 = some (.iconst 0, 33, 0, 0, []) := rfl
theorem kc68_33 : zt_code 68 33 = some (.ireturn, 34, 0, 0, []) := rfl
theorem kc69_0 : zt_code 69 0 = some (.aload_n 1, 1, 0, 0, []) := rfl
theorem kc69_1 : zt_code 69 1 = some (.ifnonnull 4, 4, 5, 0, []) := rfl
theorem kc69_4 : zt_code 69 4 = some (.return_, 5, 0, 0, []) := rfl
theorem kc69_5 : zt_code 69 5 = some (.aload_n 1, 6, 0, 0, []) := rfl
theorem kc69_6 : zt_code 69 6 = some (.getfield 199, 9, 1, 1, []) := rfl
theorem kc69_9 : zt_code 69 9 = some (.astore_n 2, 10, 0, 0, []) := rfl
theorem kc69_10 : zt_code 69 10 = some (.aload_n 0, 11, 0, 0, []) := rfl
theorem kc69_11 : zt_code 69 11 = some (.getfield 26, 14, 7, 2, []) := rfl
theorem kc69_14 : zt_code 69 14 = some (.aload_n 1, 15, 0, 0, []) := rfl
theorem kc69_15 : zt_code 69 15 = some (.invokevirtual 146, 18, 13, 1, []) := rfl
theorem kc69_18 : zt_code 69 18 = some (.aload_n 2, 19, 0, 0, []) := rfl
theorem kc69_19 : zt_code 69 19 = some (.ifnull 7, 22, 26, 0, []) := rfl
theorem kc69_22 : zt_code 69 22 = some (.aload_n 2, 23, 0, 0, []) := rfl
theorem kc69_23 : zt_code 69 23 = some (.invokevirtual 161, 26, 33, 0, []) := rfl
theorem kc69_26 : zt_code 69 26 = some (.return_, 27, 0, 0, []) := rfl
theorem kc70_0 : zt_code 70 0 = some (.iload_n 0, 1, 0, 0, []) := rfl
theorem kc70_1 : zt_code 70 1 = some (.bipush 59, 3, 0, 0, []) := rfl
theorem kc70_3 : zt_code 70 3 = some (.if_icmp .le 7, 6, 10, 0, []) := rfl
theorem kc70_6 : zt_code 70 6 = some (.iconst 1, 7, 0, 0, []) := rfl
theorem kc70_7 : zt_code 70 7 = some (.goto 4, 10, 11, 0, []) := rfl
theorem kc70_10 : zt_code 70 10 = some (.iconst 0, 11, 0, 0, []) := rfl
theorem kc70_11 : zt_code 70 11 = some (.ireturn, 12, 0, 0, []) := rfl
theorem kc71_0 : zt_code 71 0 = some (.iload_n 0, 1, 0, 0, []) := rfl
theorem kc71_1 : zt_code 71 1 = some (.iconst 3, 2, 0, 0, []) := rfl
theorem kc71_2 : zt_code 71 2 = some (.if_icmp .le 7, 5, 9, 0, []) := rfl
theorem kc71_5 : zt_code 71 5 = some (.iload_n 0, 6, 0, 0, []) := rfl
theorem kc71_6 : zt_code 71 6 = some (.goto 4, 9, 10, 0, []) := rfl
theorem kc71_9 : zt_code 71 9 = some (.iconst 1, 10, 0, 0, []) := rfl
theorem kc71_10 : zt_code 71 10 = some (.ireturn, 11, 0, 0, []) := rfl
theorem kc72_0 : zt_code 72 0 = some (.aload_n 0, 1, 0, 0, []) := rfl
theorem kc72_1 : zt_code 72 1 = some (.ifnull 21, 4, 22, 0, []) := rfl
theorem kc72_4 : zt_code 72 4 = some (.aload_n 3, 5, 0, 0, []) := rfl
theorem kc72_5 : zt_code 72 5 = some (.ifnull 17, 8, 22, 0, []) := rfl
theorem kc72_8 : zt_code 72 8 = some (.iload_n 1, 9, 0, 0, []) := rfl
theorem kc72_9 : zt_code 72 9 = some (.ifCond .lt 13, 12, 22, 0, []) := rfl
theorem kc72_12 : zt_code 72 12 = some (.iload_n 1, 13, 0, 0, []) := rfl
theorem kc72_13 : zt_code 72 13 = some (.aload_n 0, 14, 0, 0, []) := rfl
theorem kc72_14 : zt_code 72 14 = some (.arraylength, 15, 0, 0, []) := rfl
theorem kc72_15 : zt_code 72 15 = some (.if_icmp .gt 7, 18, 22, 0, []) := rfl
theorem kc72_18 : zt_code 72 18 = some (.iload_n 2, 19, 0, 0, []) := rfl
theorem kc72_19 : zt_code 72 19 = some (.ifCond .ge 5, 22, 24, 0, []) := rfl
theorem kc72_22 : zt_code 72 22 = some (.iconst 0, 23, 0, 0, []) := rfl
theorem kc72_23 : zt_code 72 23 = some (.ireturn, 24, 0, 0, []) := rfl
theorem kc72_24 : zt_code 72 24 = some (.iload_n 2, 25, 0, 0, []) := rfl
theorem kc72_25 : zt_code 72 25 = some (.aload_n 0, 26, 0, 0, []) := rfl
theorem kc72_26 : zt_code 72 26 = some (.arraylength, 27, 0, 0, []) := rfl
theorem kc72_27 : zt_code 72 27 = some (.iload_n 1, 28, 0, 0, []) := rfl
theorem kc72_28 : zt_code 72 28 = some (.isub, 29, 0, 0, []) := rfl
theorem kc72_29 : zt_code 72 29 = some (.aload_n 3, 30, 0, 0, []) := rfl
theorem kc72_30 : zt_code 72 30 = some (.arraylength, 31, 0, 0, []) := rfl
theorem kc72_31 : zt_code 72 31 = some (.invokestatic 204, 34, 1002, 0, []) := rfl
theorem kc72_34 : zt_code 72 34 = some (.invokestatic 204, 37, 1002, 0, []) := rfl
theorem kc72_37 : zt_code 72 37 = some (.istore 4, 39, 0, 0, []) := rfl
theorem kc72_39 : zt_code 72 39 = some (.aload_n 0, 40, 0, 0, []) := rfl
theorem kc72_40 : zt_code 72 40 = some (.iload_n 1, 41, 0, 0, []) := rfl
theorem kc72_41 : zt_code 72 41 = some (.aload_n 3, 42, 0, 0, []) := rfl
theorem kc72_42 : zt_code 72 42 = some (.iconst 0, 43, 0, 0, []) := rfl
theorem kc72_43 : zt_code 72 43 = some (.iload 4, 45, 0, 0, []) := rfl
theorem kc72_45 : zt_code 72 45 = some (.invokestatic 210, 48, 1003, 0, []) := rfl
theorem kc72_48 : zt_code 72 48 = some (.iload 4, 50, 0, 0, []) := rfl
theorem kc72_50 : zt_code 72 50 = some (.ireturn, 51, 0, 0, []) := rfl
theorem kc73_0 : zt_code 73 0 = some (.aload_n 0, 1, 0, 0, []) := rfl
theorem kc73_1 : zt_code 73 1 = some (.invokespecial 1, 4, 1000, 0, []) := rfl
theorem kc73_4 : zt_code 73 4 = some (.aload_n 0, 5, 0, 0, []) := rfl
theorem kc73_5 : zt_code 73 5 = some (.bipush 40, 7, 0, 0, []) := rfl
theorem kc73_7 : zt_code 73 7 = some (.putfield 7, 10, 8, 0, []) := rfl
theorem kc73_10 : zt_code 73 10 = some (.aload_n 0, 11, 0, 0, []) := rfl
theorem kc73_11 : zt_code 73 11 = some (.sipush 1200, 14, 0, 0, []) := rfl
theorem kc73_14 : zt_code 73 14 = some (.newarray .int, 16, 101, 0, []) := rfl
theorem kc73_16 : zt_code 73 16 = some (.putfield 13, 19, 8, 2, []) := rfl
theorem kc73_19 : zt_code 73 19 = some (.aload_n 0, 20, 0, 0, []) := rfl
theorem kc73_20 : zt_code 73 20 = some (.sipush 1200, 23, 0, 0, []) := rfl
theorem kc73_23 : zt_code 73 23 = some (.newarray .int, 25, 101, 0, []) := rfl
theorem kc73_25 : zt_code 73 25 = some (.putfield 17, 28, 8, 4, []) := rfl
theorem kc73_28 : zt_code 73 28 = some (.aload_n 0, 29, 0, 0, []) := rfl
theorem kc73_29 : zt_code 73 29 = some (.bipush 41, 31, 0, 0, []) := rfl
theorem kc73_31 : zt_code 73 31 = some (.newarray .int, 33, 101, 0, []) := rfl
theorem kc73_33 : zt_code 73 33 = some (.putfield 20, 36, 8, 5, []) := rfl
theorem kc73_36 : zt_code 73 36 = some (.aload_n 0, 37, 0, 0, []) := rfl
theorem kc73_37 : zt_code 73 37 = some (.bipush 41, 39, 0, 0, []) := rfl
theorem kc73_39 : zt_code 73 39 = some (.newarray .int, 41, 101, 0, []) := rfl
theorem kc73_41 : zt_code 73 41 = some (.putfield 23, 44, 8, 6, []) := rfl
theorem kc73_44 : zt_code 73 44 = some (.aload_n 0, 45, 0, 0, []) := rfl
theorem kc73_45 : zt_code 73 45 = some (.bipush 41, 47, 0, 0, []) := rfl
theorem kc73_47 : zt_code 73 47 = some (.newarray .int, 49, 101, 0, []) := rfl
theorem kc73_49 : zt_code 73 49 = some (.putfield 26, 52, 8, 7, []) := rfl
theorem kc73_52 : zt_code 73 52 = some (.aload_n 0, 53, 0, 0, []) := rfl
theorem kc73_53 : zt_code 73 53 = some (.bipush 41, 55, 0, 0, []) := rfl
theorem kc73_55 : zt_code 73 55 = some (.newarray .int, 57, 101, 0, []) := rfl
theorem kc73_57 : zt_code 73 57 = some (.putfield 29, 60, 8, 8, []) := rfl
theorem kc73_60 : zt_code 73 60 = some (.aload_n 0, 61, 0, 0, []) := rfl
theorem kc73_61 : zt_code 73 61 = some (.ldc 32, 63, 0, 0, [(41000, 0)]) := rfl
theorem kc73_63 : zt_code 73 63 = some (.newarray .byte, 65, 100, 0, []) := rfl
theorem kc73_65 : zt_code 73 65 = some (.putfield 33, 68, 8, 9, []) := rfl
theorem kc73_68 : zt_code 73 68 = some (.aload_n 0, 69, 0, 0, []) := rfl
theorem kc73_69 : zt_code 73 69 = some (.bipush 60, 71, 0, 0, []) := rfl
theorem kc73_71 : zt_code 73 71 = some (.newarray .int, 73, 101, 0, []) := rfl
theorem kc73_73 : zt_code 73 73 = some (.putfield 37, 76, 8, 11, []) := rfl
theorem kc73_76 : zt_code 73 76 = some (.aload_n 0, 77, 0, 0, []) := rfl
theorem kc73_77 : zt_code 73 77 = some (.bipush 60, 79, 0, 0, []) := rfl
theorem kc73_79 : zt_code 73 79 = some (.newarray .int, 81, 101, 0, []) := rfl
theorem kc73_81 : zt_code 73 81 = some (.putfield 40, 84, 8, 12, []) := rfl
theorem kc73_84 : zt_code 73 84 = some (.aload_n 0, 85, 0, 0, []) := rfl
theorem kc73_85 : zt_code 73 85 = some (.bipush 60, 87, 0, 0, []) := rfl
theorem kc73_87 : zt_code 73 87 = some (.newarray .int, 89, 101, 0, []) := rfl
theorem kc73_89 : zt_code 73 89 = some (.putfield 43, 92, 8, 13, []) := rfl
theorem kc73_92 : zt_code 73 92 = some (.aload_n 0, 93, 0, 0, []) := rfl
theorem kc73_93 : zt_code 73 93 = some (.sipush 15300, 96, 0, 0, []) := rfl
theorem kc73_96 : zt_code 73 96 = some (.newarray .byte, 98, 100, 0, []) := rfl
theorem kc73_98 : zt_code 73 98 = some (.putfield 46, 101, 8, 14, []) := rfl
theorem kc73_101 : zt_code 73 101 = some (.aload_n 0, 102, 0, 0, []) := rfl
theorem kc73_102 : zt_code 73 102 = some (.ldc 49, 104, 0, 0, [(42000, 0)]) := rfl
theorem kc73_104 : zt_code 73 104 = some (.newarray .int, 106, 101, 0, []) := rfl
theorem kc73_106 : zt_code 73 106 = some (.putfield 50, 109, 8, 15, []) := rfl
theorem kc73_109 : zt_code 73 109 = some (.aload_n 0, 110, 0, 0, []) := rfl
theorem kc73_110 : zt_code 73 110 = some (.getfield 20, 113, 8, 5, []) := rfl
theorem kc73_113 : zt_code 73 113 = some (.iconst 1, 114, 0, 0, []) := rfl
theorem kc73_114 : zt_code 73 114 = some (.iconst 2, 115, 0, 0, []) := rfl
theorem kc73_115 : zt_code 73 115 = some (.iastore, 116, 0, 0, []) := rfl
theorem kc73_116 : zt_code 73 116 = some (.return_, 117, 0, 0, []) := rfl
theorem kc74_0 : zt_code 74 0 = some (.iload_n 3, 1, 0, 0, []) := rfl
theorem kc74_1 : zt_code 74 1 = some (.iconst 1, 2, 0, 0, []) := rfl
theorem kc74_2 : zt_code 74 2 = some (.if_icmp .lt 21, 5, 23, 0, []) := rfl
theorem kc74_5 : zt_code 74 5 = some (.iload_n 3, 6, 0, 0, []) := rfl
theorem kc74_6 : zt_code 74 6 = some (.bipush 8, 8, 0, 0, []) := rfl
theorem kc74_8 : zt_code 74 8 = some (.if_icmp .gt 15, 11, 23, 0, []) := rfl
theorem kc74_11 : zt_code 74 11 = some (.aload_n 0, 12, 0, 0, []) := rfl
theorem kc74_12 : zt_code 74 12 = some (.getfield 53, 15, 8, 1, []) := rfl
theorem kc74_15 : zt_code 74 15 = some (.iload_n 3, 16, 0, 0, []) := rfl
theorem kc74_16 : zt_code 74 16 = some (.iadd, 17, 0, 0, []) := rfl
theorem kc74_17 : zt_code 74 17 = some (.sipush 1200, 20, 0, 0, []) := rfl
theorem kc74_20 : zt_code 74 20 = some (.if_icmp .le 5, 23, 25, 0, []) := rfl
theorem kc74_23 : zt_code 74 23 = some (.iconst (-1), 24, 0, 0, []) := rfl
theorem kc74_24 : zt_code 74 24 = some (.ireturn, 25, 0, 0, []) := rfl
theorem kc74_25 : zt_code 74 25 = some (.iload_n 3, 26, 0, 0, []) := rfl
theorem kc74_26 : zt_code 74 26 = some (.iconst 1, 27, 0, 0, []) := rfl
theorem kc74_27 : zt_code 74 27 = some (.isub, 28, 0, 0, []) := rfl
theorem kc74_28 : zt_code 74 28 = some (.istore 4, 30, 0, 0, []) := rfl
theorem kc74_30 : zt_code 74 30 = some (.iload 4, 32, 0, 0, []) := rfl
theorem kc74_32 : zt_code 74 32 = some (.ifCond .lt 40, 35, 72, 0, []) := rfl
theorem kc74_35 : zt_code 74 35 = some (.aload_n 0, 36, 0, 0, []) := rfl
theorem kc74_36 : zt_code 74 36 = some (.getfield 13, 39, 8, 2, []) := rfl
theorem kc74_39 : zt_code 74 39 = some (.aload_n 0, 40, 0, 0, []) := rfl
theorem kc74_40 : zt_code 74 40 = some (.getfield 53, 43, 8, 1, []) := rfl
theorem kc74_43 : zt_code 74 43 = some (.lload_n 1, 44, 0, 0, []) := rfl
theorem kc74_44 : zt_code 74 44 = some (.bipush 8, 46, 0, 0, []) := rfl
theorem kc74_46 : zt_code 74 46 = some (.iload 4, 48, 0, 0, []) := rfl
theorem kc74_48 : zt_code 74 48 = some (.imul, 49, 0, 0, []) := rfl
theorem kc74_49 : zt_code 74 49 = some (.lshr, 50, 0, 0, []) := rfl
theorem kc74_50 : zt_code 74 50 = some (.ldc2_w 56, 53, 0, 0, [(255, 0)]) := rfl
theorem kc74_53 : zt_code 74 53 = some (.land, 54, 0, 0, []) := rfl
theorem kc74_54 : zt_code 74 54 = some (.l2i, 55, 0, 0, []) := rfl
theorem kc74_55 : zt_code 74 55 = some (.iastore, 56, 0, 0, []) := rfl
theorem kc74_56 : zt_code 74 56 = some (.aload_n 0, 57, 0, 0, []) := rfl
theorem kc74_57 : zt_code 74 57 = some (.dup, 58, 0, 0, []) := rfl
theorem kc74_58 : zt_code 74 58 = some (.getfield 53, 61, 8, 1, []) := rfl
theorem kc74_61 : zt_code 74 61 = some (.iconst 1, 62, 0, 0, []) := rfl
theorem kc74_62 : zt_code 74 62 = some (.iadd, 63, 0, 0, []) := rfl
theorem kc74_63 : zt_code 74 63 = some (.putfield 53, 66, 8, 1, []) := rfl
theorem kc74_66 : zt_code 74 66 = some (.iinc 4 (-1), 69, 0, 0, []) := rfl
theorem kc74_69 : zt_code 74 69 = some (.goto (-39), 72, 30, 0, []) := rfl
theorem kc74_72 : zt_code 74 72 = some (.aload_n 0, 73, 0, 0, []) := rfl
theorem kc74_73 : zt_code 74 73 = some (.getfield 53, 76, 8, 1, []) := rfl
theorem kc74_76 : zt_code 74 76 = some (.ireturn, 77, 0, 0, []) := rfl
theorem kc75_0 : zt_code 75 0 = some (.iload_n 1, 1, 0, 0, []) := rfl
theorem kc75_1 : zt_code 75 1 = some (.ifCond .lt 34, 4, 35, 0, []) := rfl
theorem kc75_4 : zt_code 75 4 = some (.iload_n 1, 5, 0, 0, []) := rfl
theorem kc75_5 : zt_code 75 5 = some (.sipush 255, 8, 0, 0, []) := rfl
theorem kc75_8 : zt_code 75 8 = some (.if_icmp .gt 27, 11, 35, 0, []) := rfl
theorem kc75_11 : zt_code 75 11 = some (.iload_n 2, 12, 0, 0, []) := rfl
theorem kc75_12 : zt_code 75 12 = some (.iconst 1, 13, 0, 0, []) := rfl
theorem kc75_13 : zt_code 75 13 = some (.if_icmp .lt 22, 16, 35, 0, []) := rfl
theorem kc75_16 : zt_code 75 16 = some (.iload_n 2, 17, 0, 0, []) := rfl
theorem kc75_17 : zt_code 75 17 = some (.sipush 1200, 20, 0, 0, []) := rfl
theorem kc75_20 : zt_code 75 20 = some (.if_icmp .gt 15, 23, 35, 0, []) := rfl
theorem kc75_23 : zt_code 75 23 = some (.aload_n 0, 24, 0, 0, []) := rfl
theorem kc75_24 : zt_code 75 24 = some (.getfield 53, 27, 8, 1, []) := rfl
theorem kc75_27 : zt_code 75 27 = some (.iload_n 2, 28, 0, 0, []) := rfl
theorem kc75_28 : zt_code 75 28 = some (.iadd, 29, 0, 0, []) := rfl
theorem kc75_29 : zt_code 75 29 = some (.sipush 1200, 32, 0, 0, []) := rfl
theorem kc75_32 : zt_code 75 32 = some (.if_icmp .le 5, 35, 37, 0, []) := rfl
theorem kc75_35 : zt_code 75 35 = some (.iconst (-1), 36, 0, 0, []) := rfl
theorem kc75_36 : zt_code 75 36 = some (.ireturn, 37, 0, 0, []) := rfl
theorem kc75_37 : zt_code 75 37 = some (.iconst 0, 38, 0, 0, []) := rfl
theorem kc75_38 : zt_code 75 38 = some (.istore_n 3, 39, 0, 0, []) := rfl
theorem kc75_39 : zt_code 75 39 = some (.iload_n 3, 40, 0, 0, []) := rfl
theorem kc75_40 : zt_code 75 40 = some (.iload_n 2, 41, 0, 0, []) := rfl
theorem kc75_41 : zt_code 75 41 = some (.if_icmp .ge 21, 44, 62, 0, []) := rfl
theorem kc75_44 : zt_code 75 44 = some (.aload_n 0, 45, 0, 0, []) := rfl
theorem kc75_45 : zt_code 75 45 = some (.getfield 13, 48, 8, 2, []) := rfl
theorem kc75_48 : zt_code 75 48 = some (.aload_n 0, 49, 0, 0, []) := rfl
theorem kc75_49 : zt_code 75 49 = some (.getfield 53, 52, 8, 1, []) := rfl
theorem kc75_52 : zt_code 75 52 = some (.iload_n 3, 53, 0, 0, []) := rfl
theorem kc75_53 : zt_code 75 53 = some (.iadd, 54, 0, 0, []) := rfl
theorem kc75_54 : zt_code 75 54 = some (.iload_n 1, 55, 0, 0, []) := rfl
theorem kc75_55 : zt_code 75 55 = some (.iastore, 56, 0, 0, []) := rfl
theorem kc75_56 : zt_code 75 56 = some (.iinc 3 1, 59, 0, 0, []) := rfl
theorem kc75_59 : zt_code 75 59 = some (.goto (-20), 62, 39, 0, []) := rfl
theorem kc75_62 : zt_code 75 62 = some (.aload_n 0, 63, 0, 0, []) := rfl
theorem kc75_63 : zt_code 75 63 = some (.dup, 64, 0, 0, []) := rfl
theorem kc75_64 : zt_code 75 64 = some (.getfield 53, 67, 8, 1, []) := rfl
theorem kc75_67 : zt_code 75 67 = some (.iload_n 2, 68, 0, 0, []) := rfl
theorem kc75_68 : zt_code 75 68 = some (.iadd, 69, 0, 0, []) := rfl
theorem kc75_69 : zt_code 75 69 = some (.putfield 53, 72, 8, 1, []) := rfl
theorem kc75_72 : zt_code 75 72 = some (.aload_n 0, 73, 0, 0, []) := rfl
theorem kc75_73 : zt_code 75 73 = some (.getfield 53, 76, 8, 1, []) := rfl
theorem kc75_76 : zt_code 75 76 = some (.ireturn, 77, 0, 0, []) := rfl
theorem kc76_0 : zt_code 76 0 = some (.aload_n 0, 1, 0, 0, []) := rfl
theorem kc76_1 : zt_code 76 1 = some (.aload_n 0, 2, 0, 0, []) := rfl
theorem kc76_2 : zt_code 76 2 = some (.getfield 53, 5, 8, 1, []) := rfl
theorem kc76_5 : zt_code 76 5 = some (.putfield 58, 8, 8, 3, []) := rfl
theorem kc76_8 : zt_code 76 8 = some (.aload_n 0, 9, 0, 0, []) := rfl
theorem kc76_9 : zt_code 76 9 = some (.iconst 0, 10, 0, 0, []) := rfl
theorem kc76_10 : zt_code 76 10 = some (.putfield 53, 13, 8, 1, []) := rfl
theorem kc76_13 : zt_code 76 13 = some (.iconst (-1), 14, 0, 0, []) := rfl
theorem kc76_14 : zt_code 76 14 = some (.istore_n 1, 15, 0, 0, []) := rfl
theorem kc76_15 : zt_code 76 15 = some (.iconst 0, 16, 0, 0, []) := rfl
theorem kc76_16 : zt_code 76 16 = some (.istore_n 2, 17, 0, 0, []) := rfl
theorem kc76_17 : zt_code 76 17 = some (.iload_n 2, 18, 0, 0, []) := rfl
theorem kc76_18 : zt_code 76 18 = some (.aload_n 0, 19, 0, 0, []) := rfl
theorem kc76_19 : zt_code 76 19 = some (.getfield 58, 22, 8, 3, []) := rfl
theorem kc76_22 : zt_code 76 22 = some (.if_icmp .ge 42, 25, 64, 0, []) := rfl
theorem kc76_25 : zt_code 76 25 = some (.aload_n 0, 26, 0, 0, []) := rfl
theorem kc76_26 : zt_code 76 26 = some (.getfield 17, 29, 8, 4, []) := rfl
theorem kc76_29 : zt_code 76 29 = some (.iload_n 2, 30, 0, 0, []) := rfl
theorem kc76_30 : zt_code 76 30 = some (.aload_n 0, 31, 0, 0, []) := rfl
theorem kc76_31 : zt_code 76 31 = some (.getfield 13, 34, 8, 2, []) := rfl
theorem kc76_34 : zt_code 76 34 = some (.iload_n 2, 35, 0, 0, []) := rfl
theorem kc76_35 : zt_code 76 35 = some (.iaload, 36, 0, 0, []) := rfl
theorem kc76_36 : zt_code 76 36 = some (.iastore, 37, 0, 0, []) := rfl
theorem kc76_37 : zt_code 76 37 = some (.aload_n 0, 38, 0, 0, []) := rfl
theorem kc76_38 : zt_code 76 38 = some (.getfield 17, 41, 8, 4, []) := rfl
theorem kc76_41 : zt_code 76 41 = some (.iload_n 2, 42, 0, 0, []) := rfl
theorem kc76_42 : zt_code 76 42 = some (.iaload, 43, 0, 0, []) := rfl
theorem kc76_43 : zt_code 76 43 = some (.ifCond .ne 15, 46, 58, 0, []) := rfl
theorem kc76_46 : zt_code 76 46 = some (.iload_n 1, 47, 0, 0, []) := rfl
theorem kc76_47 : zt_code 76 47 = some (.iconst (-1), 48, 0, 0, []) := rfl
theorem kc76_48 : zt_code 76 48 = some (.if_icmp .ne 7, 51, 55, 0, []) := rfl
theorem kc76_51 : zt_code 76 51 = some (.iload_n 2, 52, 0, 0, []) := rfl
theorem kc76_52 : zt_code 76 52 = some (.goto 5, 55, 57, 0, []) := rfl
theorem kc76_55 : zt_code 76 55 = some (.bipush (-2), 57, 0, 0, []) := rfl
theorem kc76_57 : zt_code 76 57 = some (.istore_n 1, 58, 0, 0, []) := rfl
theorem kc76_58 : zt_code 76 58 = some (.iinc 2 1, 61, 0, 0, []) := rfl
theorem kc76_61 : zt_code 76 61 = some (.goto (-44), 64, 17, 0, []) := rfl
theorem kc76_64 : zt_code 76 64 = some (.iconst 0, 65, 0, 0, []) := rfl
theorem kc76_65 : zt_code 76 65 = some (.istore_n 2, 66, 0, 0, []) := rfl
theorem kc76_66 : zt_code 76 66 = some (.iconst 0, 67, 0, 0, []) := rfl
theorem kc76_67 : zt_code 76 67 = some (.istore_n 3, 68, 0, 0, []) := rfl
theorem kc76_68 : zt_code 76 68 = some (.iload_n 3, 69, 0, 0, []) := rfl
theorem kc76_69 : zt_code 76 69 = some (.aload_n 0, 70, 0, 0, []) := rfl
theorem kc76_70 : zt_code 76 70 = some (.getfield 58, 73, 8, 3, []) := rfl
theorem kc76_73 : zt_code 76 73 = some (.if_icmp .ge 26, 76, 99, 0, []) := rfl
theorem kc76_76 : zt_code 76 76 = some (.iload_n 2, 77, 0, 0, []) := rfl
theorem kc76_77 : zt_code 76 77 = some (.aload_n 0, 78, 0, 0, []) := rfl
theorem kc76_78 : zt_code 76 78 = some (.getfield 17, 81, 8, 4, []) := rfl
theorem kc76_81 : zt_code 76 81 = some (.iload_n 3, 82, 0, 0, []) := rfl
theorem kc76_82 : zt_code 76 82 = some (.iaload, 83, 0, 0, []) := rfl
theorem kc76_83 : zt_code 76 83 = some (.ifCond .ne 7, 86, 90, 0, []) := rfl
theorem kc76_86 : zt_code 76 86 = some (.iconst 1, 87, 0, 0, []) := rfl
theorem kc76_87 : zt_code 76 87 = some (.goto 4, 90, 91, 0, []) := rfl
theorem kc76_90 : zt_code 76 90 = some (.iconst 0, 91, 0, 0, []) := rfl
theorem kc76_91 : zt_code 76 91 = some (.iadd, 92, 0, 0, []) := rfl
theorem kc76_92 : zt_code 76 92 = some (.istore_n 2, 93, 0, 0, []) := rfl
theorem kc76_93 : zt_code 76 93 = some (.iinc 3 1, 96, 0, 0, []) := rfl
theorem kc76_96 : zt_code 76 96 = some (.goto (-28), 99, 68, 0, []) := rfl
theorem kc76_99 : zt_code 76 99 = some (.iload_n 2, 100, 0, 0, []) := rfl
theorem kc76_100 : zt_code 76 100 = some (.iconst 1, 101, 0, 0, []) := rfl
theorem kc76_101 : zt_code 76 101 = some (.if_icmp .le 8, 104, 109, 0, []) := rfl
theorem kc76_104 : zt_code 76 104 = some (.bipush (-2), 106, 0, 0, []) := rfl
theorem kc76_106 : zt_code 76 106 = some (.goto 4, 109, 110, 0, []) := rfl
theorem kc76_109 : zt_code 76 109 = some (.iload_n 1, 110, 0, 0, []) := rfl
theorem kc76_110 : zt_code 76 110 = some (.ireturn, 111, 0, 0, []) := rfl
theorem kc77_0 : zt_code 77 0 = some (.iload_n 0, 1, 0, 0, []) := rfl
theorem kc77_1 : zt_code 77 1 = some (.iconst 3, 2, 0, 0, []) := rfl
theorem kc77_2 : zt_code 77 2 = some (.if_icmp .le 7, 5, 9, 0, []) := rfl
theorem kc77_5 : zt_code 77 5 = some (.iload_n 0, 6, 0, 0, []) := rfl
theorem kc77_6 : zt_code 77 6 = some (.goto 4, 9, 10, 0, []) := rfl
theorem kc77_9 : zt_code 77 9 = some (.iconst 1, 10, 0, 0, []) := rfl
theorem kc77_10 : zt_code 77 10 = some (.ireturn, 11, 0, 0, []) := rfl
theorem kc78_0 : zt_code 78 0 = some (.aload_n 0, 1, 0, 0, []) := rfl
theorem kc78_1 : zt_code 78 1 = some (.getfield 20, 4, 8, 5, []) := rfl
theorem kc78_4 : zt_code 78 4 = some (.iload_n 1, 5, 0, 0, []) := rfl
theorem kc78_5 : zt_code 78 5 = some (.iaload, 6, 0, 0, []) := rfl
theorem kc78_6 : zt_code 78 6 = some (.ifCond .ne 5, 9, 11, 0, []) := rfl
theorem kc78_9 : zt_code 78 9 = some (.iconst 0, 10, 0, 0, []) := rfl
theorem kc78_10 : zt_code 78 10 = some (.ireturn, 11, 0, 0, []) := rfl
theorem kc78_11 : zt_code 78 11 = some (.aload_n 0, 12, 0, 0, []) := rfl
theorem kc78_12 : zt_code 78 12 = some (.getfield 20, 15, 8, 5, []) := rfl
theorem kc78_15 : zt_code 78 15 = some (.iload_n 1, 16, 0, 0, []) := rfl
theorem kc78_16 : zt_code 78 16 = some (.iaload, 17, 0, 0, []) := rfl
theorem kc78_17 : zt_code 78 17 = some (.iconst 1, 18, 0, 0, []) := rfl
theorem kc78_18 : zt_code 78 18 = some (.if_icmp .ne 7, 21, 25, 0, []) := rfl
theorem kc78_21 : zt_code 78 21 = some (.iconst 1, 22, 0, 0, []) := rfl
theorem kc78_22 : zt_code 78 22 = some (.goto 41, 25, 63, 0, []) := rfl
theorem kc78_25 : zt_code 78 25 = some (.aload_n 0, 26, 0, 0, []) := rfl
theorem kc78_26 : zt_code 78 26 = some (.getfield 20, 29, 8, 5, []) := rfl
theorem kc78_29 : zt_code 78 29 = some (.iload_n 1, 30, 0, 0, []) := rfl
theorem kc78_30 : zt_code 78 30 = some (.iaload, 31, 0, 0, []) := rfl
theorem kc78_31 : zt_code 78 31 = some (.iconst 3, 32, 0, 0, []) := rfl
theorem kc78_32 : zt_code 78 32 = some (.if_icmp .ne 22, 35, 54, 0, []) := rfl
theorem kc78_35 : zt_code 78 35 = some (.aload_n 0, 36, 0, 0, []) := rfl
theorem kc78_36 : zt_code 78 36 = some (.getfield 29, 39, 8, 8, []) := rfl
theorem kc78_39 : zt_code 78 39 = some (.iload_n 1, 40, 0, 0, []) := rfl
theorem kc78_40 : zt_code 78 40 = some (.iaload, 41, 0, 0, []) := rfl
theorem kc78_41 : zt_code 78 41 = some (.bipush 59, 43, 0, 0, []) := rfl
theorem kc78_43 : zt_code 78 43 = some (.if_icmp .le 7, 46, 50, 0, []) := rfl
theorem kc78_46 : zt_code 78 46 = some (.iconst 1, 47, 0, 0, []) := rfl
theorem kc78_47 : zt_code 78 47 = some (.goto 16, 50, 63, 0, []) := rfl
theorem kc78_50 : zt_code 78 50 = some (.iconst 0, 51, 0, 0, []) := rfl
theorem kc78_51 : zt_code 78 51 = some (.goto 12, 54, 63, 0, []) := rfl
theorem kc78_54 : zt_code 78 54 = some (.aload_n 0, 55, 0, 0, []) := rfl
theorem kc78_55 : zt_code 78 55 = some (.getfield 23, 58, 8, 6, []) := rfl
theorem kc78_58 : zt_code 78 58 = some (.iload_n 1, 59, 0, 0, []) := rfl
theorem kc78_59 : zt_code 78 59 = some (.iaload, 60, 0, 0, []) := rfl
theorem kc78_60 : zt_code 78 60 = some (.invokestatic 61, 63, 77, 1, []) := rfl
theorem kc78_63 : zt_code 78 63 = some (.ireturn, 64, 0, 0, []) := rfl
theorem kc79_0 : zt_code 79 0 = some (.iconst 0, 1, 0, 0, []) := rfl
theorem kc79_1 : zt_code 79 1 = some (.istore_n 1, 2, 0, 0, []) := rfl
theorem kc79_2 : zt_code 79 2 = some (.iconst 1, 3, 0, 0, []) := rfl
theorem kc79_3 : zt_code 79 3 = some (.istore_n 2, 4, 0, 0, []) := rfl
theorem kc79_4 : zt_code 79 4 = some (.iload_n 2, 5, 0, 0, []) := rfl
theorem kc79_5 : zt_code 79 5 = some (.bipush 40, 7, 0, 0, []) := rfl
theorem kc79_7 : zt_code 79 7 = some (.if_icmp .gt 17, 10, 24, 0, []) := rfl
theorem kc79_10 : zt_code 79 10 = some (.iload_n 1, 11, 0, 0, []) := rfl
theorem kc79_11 : zt_code 79 11 = some (.aload_n 0, 12, 0, 0, []) := rfl
theorem kc79_12 : zt_code 79 12 = some (.iload_n 2, 13, 0, 0, []) := rfl
theorem kc79_13 : zt_code 79 13 = some (.invokevirtual 65, 16, 78, 1, []) := rfl
theorem kc79_16 : zt_code 79 16 = some (.iadd, 17, 0, 0, []) := rfl
theorem kc79_17 : zt_code 79 17 = some (.istore_n 1, 18, 0, 0, []) := rfl
theorem kc79_18 : zt_code 79 18 = some (.iinc 2 1, 21, 0, 0, []) := rfl
theorem kc79_21 : zt_code 79 21 = some (.goto (-17), 24, 4, 0, []) := rfl
theorem kc79_24 : zt_code 79 24 = some (.iload_n 1, 25, 0, 0, []) := rfl
theorem kc79_25 : zt_code 79 25 = some (.ireturn, 26, 0, 0, []) := rfl
theorem kc80_0 : zt_code 80 0 = some (.iconst 0, 1, 0, 0, []) := rfl
theorem kc80_1 : zt_code 80 1 = some (.istore_n 1, 2, 0, 0, []) := rfl
theorem kc80_2 : zt_code 80 2 = some (.iconst 1, 3, 0, 0, []) := rfl
theorem kc80_3 : zt_code 80 3 = some (.istore_n 2, 4, 0, 0, []) := rfl
theorem kc80_4 : zt_code 80 4 = some (.iload_n 2, 5, 0, 0, []) := rfl
theorem kc80_5 : zt_code 80 5 = some (.bipush 40, 7, 0, 0, []) := rfl
theorem kc80_7 : zt_code 80 7 = some (.if_icmp .gt 26, 10, 33, 0, []) := rfl
theorem kc80_10 : zt_code 80 10 = some (.iload_n 1, 11, 0, 0, []) := rfl
theorem kc80_11 : zt_code 80 11 = some (.aload_n 0, 12, 0, 0, []) := rfl
theorem kc80_12 : zt_code 80 12 = some (.getfield 20, 15, 8, 5, []) := rfl
theorem kc80_15 : zt_code 80 15 = some (.iload_n 2, 16, 0, 0, []) := rfl
theorem kc80_16 : zt_code 80 16 = some (.iaload, 17, 0, 0, []) := rfl
theorem kc80_17 : zt_code 80 17 = some (.ifCond .le 7, 20, 24, 0, []) := rfl
theorem kc80_20 : zt_code 80 20 = some (.iconst 1, 21, 0, 0, []) := rfl
theorem kc80_21 : zt_code 80 21 = some (.goto 4, 24, 25, 0, []) := rfl
theorem kc80_24 : zt_code 80 24 = some (.iconst 0, 25, 0, 0, []) := rfl
theorem kc80_25 : zt_code 80 25 = some (.iadd, 26, 0, 0, []) := rfl
theorem kc80_26 : zt_code 80 26 = some (.istore_n 1, 27, 0, 0, []) := rfl
theorem kc80_27 : zt_code 80 27 = some (.iinc 2 1, 30, 0, 0, []) := rfl
theorem kc80_30 : zt_code 80 30 = some (.goto (-26), 33, 4, 0, []) := rfl
theorem kc80_33 : zt_code 80 33 = some (.iload_n 1, 34, 0, 0, []) := rfl
theorem kc80_34 : zt_code 80 34 = some (.ireturn, 35, 0, 0, []) := rfl
theorem kc81_0 : zt_code 81 0 = some (.iconst 0, 1, 0, 0, []) := rfl
theorem kc81_1 : zt_code 81 1 = some (.istore_n 2, 2, 0, 0, []) := rfl
theorem kc81_2 : zt_code 81 2 = some (.iconst 0, 3, 0, 0, []) := rfl
theorem kc81_3 : zt_code 81 3 = some (.istore_n 3, 4, 0, 0, []) := rfl
theorem kc81_4 : zt_code 81 4 = some (.iload_n 3, 5, 0, 0, []) := rfl
theorem kc81_5 : zt_code 81 5 = some (.aload_n 0, 6, 0, 0, []) := rfl
theorem kc81_6 : zt_code 81 6 = some (.getfield 68, 9, 8, 10, []) := rfl
theorem kc81_9 : zt_code 81 9 = some (.if_icmp .ge 27, 12, 36, 0, []) := rfl
theorem kc81_12 : zt_code 81 12 = some (.iload_n 2, 13, 0, 0, []) := rfl
theorem kc81_13 : zt_code 81 13 = some (.aload_n 0, 14, 0, 0, []) := rfl
theorem kc81_14 : zt_code 81 14 = some (.getfield 40, 17, 8, 12, []) := rfl
theorem kc81_17 : zt_code 81 17 = some (.iload_n 3, 18, 0, 0, []) := rfl
theorem kc81_18 : zt_code 81 18 = some (.iaload, 19, 0, 0, []) := rfl
theorem kc81_19 : zt_code 81 19 = some (.iload_n 1, 20, 0, 0, []) := rfl
theorem kc81_20 : zt_code 81 20 = some (.if_icmp .ne 7, 23, 27, 0, []) := rfl
theorem kc81_23 : zt_code 81 23 = some (.iconst 1, 24, 0, 0, []) := rfl
theorem kc81_24 : zt_code 81 24 = some (.goto 4, 27, 28, 0, []) := rfl
theorem kc81_27 : zt_code 81 27 = some (.iconst 0, 28, 0, 0, []) := rfl
theorem kc81_28 : zt_code 81 28 = some (.iadd, 29, 0, 0, []) := rfl
theorem kc81_29 : zt_code 81 29 = some (.istore_n 2, 30, 0, 0, []) := rfl
theorem kc81_30 : zt_code 81 30 = some (.iinc 3 1, 33, 0, 0, []) := rfl
theorem kc81_33 : zt_code 81 33 = some (.goto (-29), 36, 4, 0, []) := rfl
theorem kc81_36 : zt_code 81 36 = some (.iload_n 2, 37, 0, 0, []) := rfl
theorem kc81_37 : zt_code 81 37 = some (.ireturn, 38, 0, 0, []) := rfl
theorem kc82_0 : zt_code 82 0 = some (.iconst 0, 1, 0, 0, []) := rfl
theorem kc82_1 : zt_code 82 1 = some (.istore_n 2, 2, 0, 0, []) := rfl
theorem kc82_2 : zt_code 82 2 = some (.iconst 0, 3, 0, 0, []) := rfl
theorem kc82_3 : zt_code 82 3 = some (.istore_n 3, 4, 0, 0, []) := rfl
theorem kc82_4 : zt_code 82 4 = some (.iload_n 3, 5, 0, 0, []) := rfl
theorem kc82_5 : zt_code 82 5 = some (.aload_n 0, 6, 0, 0, []) := rfl
theorem kc82_6 : zt_code 82 6 = some (.getfield 68, 9, 8, 10, []) := rfl
theorem kc82_9 : zt_code 82 9 = some (.if_icmp .ge 27, 12, 36, 0, []) := rfl
theorem kc82_12 : zt_code 82 12 = some (.iload_n 2, 13, 0, 0, []) := rfl
theorem kc82_13 : zt_code 82 13 = some (.aload_n 0, 14, 0, 0, []) := rfl
theorem kc82_14 : zt_code 82 14 = some (.getfield 37, 17, 8, 11, []) := rfl
theorem kc82_17 : zt_code 82 17 = some (.iload_n 3, 18, 0, 0, []) := rfl
theorem kc82_18 : zt_code 82 18 = some (.iaload, 19, 0, 0, []) := rfl
theorem kc82_19 : zt_code 82 19 = some (.iload_n 1, 20, 0, 0, []) := rfl
theorem kc82_20 : zt_code 82 20 = some (.if_icmp .ne 7, 23, 27, 0, []) := rfl
theorem kc82_23 : zt_code 82 23 = some (.iconst 1, 24, 0, 0, []) := rfl
theorem kc82_24 : zt_code 82 24 = some (.goto 4, 27, 28, 0, []) := rfl
theorem kc82_27 : zt_code 82 27 = some (.iconst 0, 28, 0, 0, []) := rfl
theorem kc82_28 : zt_code 82 28 = some (.iadd, 29, 0, 0, []) := rfl
theorem kc82_29 : zt_code 82 29 = some (.istore_n 2, 30, 0, 0, []) := rfl
theorem kc82_30 : zt_code 82 30 = some (.iinc 3 1, 33, 0, 0, []) := rfl
theorem kc82_33 : zt_code 82 33 = some (.goto (-29), 36, 4, 0, []) := rfl
theorem kc82_36 : zt_code 82 36 = some (.iload_n 2, 37, 0, 0, []) := rfl
theorem kc82_37 : zt_code 82 37 = some (.ireturn, 38, 0, 0, []) := rfl
theorem kc83_0 : zt_code 83 0 = some (.iconst 1, 1, 0, 0, []) := rfl
theorem kc83_1 : zt_code 83 1 = some (.istore_n 2, 2, 0, 0, []) := rfl
theorem kc83_2 : zt_code 83 2 = some (.iconst 0, 3, 0, 0, []) := rfl
theorem kc83_3 : zt_code 83 3 = some (.istore_n 3, 4, 0, 0, []) := rfl
theorem kc83_4 : zt_code 83 4 = some (.iload_n 3, 5, 0, 0, []) := rfl
theorem kc83_5 : zt_code 83 5 = some (.aload_n 0, 6, 0, 0, []) := rfl
theorem kc83_6 : zt_code 83 6 = some (.getfield 68, 9, 8, 10, []) := rfl
theorem kc83_9 : zt_code 83 9 = some (.if_icmp .ge 30, 12, 39, 0, []) := rfl
theorem kc83_12 : zt_code 83 12 = some (.aload_n 0, 13, 0, 0, []) := rfl
theorem kc83_13 : zt_code 83 13 = some (.getfield 40, 16, 8, 12, []) := rfl
theorem kc83_16 : zt_code 83 16 = some (.iload_n 3, 17, 0, 0, []) := rfl
theorem kc83_17 : zt_code 83 17 = some (.iaload, 18, 0, 0, []) := rfl
theorem kc83_18 : zt_code 83 18 = some (.iload_n 1, 19, 0, 0, []) := rfl
theorem kc83_19 : zt_code 83 19 = some (.if_icmp .ne 12, 22, 31, 0, []) := rfl
theorem kc83_22 : zt_code 83 22 = some (.aload_n 0, 23, 0, 0, []) := rfl
theorem kc83_23 : zt_code 83 23 = some (.getfield 37, 26, 8, 11, []) := rfl
theorem kc83_26 : zt_code 83 26 = some (.iload_n 3, 27, 0, 0, []) := rfl
theorem kc83_27 : zt_code 83 27 = some (.iaload, 28, 0, 0, []) := rfl
theorem kc83_28 : zt_code 83 28 = some (.goto 4, 31, 32, 0, []) := rfl
theorem kc83_31 : zt_code 83 31 = some (.iload_n 2, 32, 0, 0, []) := rfl
theorem kc83_32 : zt_code 83 32 = some (.istore_n 2, 33, 0, 0, []) := rfl
theorem kc83_33 : zt_code 83 33 = some (.iinc 3 1, 36, 0, 0, []) := rfl
theorem kc83_36 : zt_code 83 36 = some (.goto (-32), 39, 4, 0, []) := rfl
theorem kc83_39 : zt_code 83 39 = some (.iload_n 2, 40, 0, 0, []) := rfl
theorem kc83_40 : zt_code 83 40 = some (.ireturn, 41, 0, 0, []) := rfl
theorem kc84_0 : zt_code 84 0 = some (.aload_n 0, 1, 0, 0, []) := rfl
theorem kc84_1 : zt_code 84 1 = some (.getfield 43, 4, 8, 13, []) := rfl
theorem kc84_4 : zt_code 84 4 = some (.iload_n 1, 5, 0, 0, []) := rfl
theorem kc84_5 : zt_code 84 5 = some (.iaload, 6, 0, 0, []) := rfl
theorem kc84_6 : zt_code 84 6 = some (.iload_n 3, 7, 0, 0, []) := rfl
theorem kc84_7 : zt_code 84 7 = some (.if_icmp .ne 7, 10, 14, 0, []) := rfl
theorem kc84_10 : zt_code 84 10 = some (.iconst 1, 11, 0, 0, []) := rfl
theorem kc84_11 : zt_code 84 11 = some (.goto 4, 14, 15, 0, []) := rfl
theorem kc84_14 : zt_code 84 14 = some (.iconst 0, 15, 0, 0, []) := rfl
theorem kc84_15 : zt_code 84 15 = some (.istore 4, 17, 0, 0, []) := rfl
theorem kc84_17 : zt_code 84 17 = some (.iconst 0, 18, 0, 0, []) := rfl
theorem kc84_18 : zt_code 84 18 = some (.istore 5, 20, 0, 0, []) := rfl
theorem kc84_20 : zt_code 84 20 = some (.iload 5, 22, 0, 0, []) := rfl
theorem kc84_22 : zt_code 84 22 = some (.iload_n 3, 23, 0, 0, []) := rfl
theorem kc84_23 : zt_code 84 23 = some (.if_icmp .ge 50, 26, 73, 0, []) := rfl
theorem kc84_26 : zt_code 84 26 = some (.iload 4, 28, 0, 0, []) := rfl
theorem kc84_28 : zt_code 84 28 = some (.ifCond .eq 45, 31, 73, 0, []) := rfl
theorem kc84_31 : zt_code 84 31 = some (.aload_n 0, 32, 0, 0, []) := rfl
theorem kc84_32 : zt_code 84 32 = some (.getfield 46, 35, 8, 14, []) := rfl
theorem kc84_35 : zt_code 84 35 = some (.sipush 255, 38, 0, 0, []) := rfl
theorem kc84_38 : zt_code 84 38 = some (.iload_n 1, 39, 0, 0, []) := rfl
theorem kc84_39 : zt_code 84 39 = some (.imul, 40, 0, 0, []) := rfl
theorem kc84_40 : zt_code 84 40 = some (.iload 5, 42, 0, 0, []) := rfl
theorem kc84_42 : zt_code 84 42 = some (.iadd, 43, 0, 0, []) := rfl
theorem kc84_43 : zt_code 84 43 = some (.baload, 44, 0, 0, []) := rfl
theorem kc84_44 : zt_code 84 44 = some (.sipush 255, 47, 0, 0, []) := rfl
theorem kc84_47 : zt_code 84 47 = some (.iand, 48, 0, 0, []) := rfl
theorem kc84_48 : zt_code 84 48 = some (.aload_n 0, 49, 0, 0, []) := rfl
theorem kc84_49 : zt_code 84 49 = some (.getfield 50, 52, 8, 15, []) := rfl
theorem kc84_52 : zt_code 84 52 = some (.iload_n 2, 53, 0, 0, []) := rfl
theorem kc84_53 : zt_code 84 53 = some (.iload 5, 55, 0, 0, []) := rfl
theorem kc84_55 : zt_code 84 55 = some (.iadd, 56, 0, 0, []) := rfl
theorem kc84_56 : zt_code 84 56 = some (.iaload, 57, 0, 0, []) := rfl
theorem kc84_57 : zt_code 84 57 = some (.if_icmp .ne 7, 60, 64, 0, []) := rfl
theorem kc84_60 : zt_code 84 60 = some (.iconst 1, 61, 0, 0, []) := rfl
theorem kc84_61 : zt_code 84 61 = some (.goto 4, 64, 65, 0, []) := rfl
theorem kc84_64 : zt_code 84 64 = some (.iconst 0, 65, 0, 0, []) := rfl
theorem kc84_65 : zt_code 84 65 = some (.istore 4, 67, 0, 0, []) := rfl
theorem kc84_67 : zt_code 84 67 = some (.iinc 5 1, 70, 0, 0, []) := rfl
theorem kc84_70 : zt_code 84 70 = some (.goto (-50), 73, 20, 0, []) := rfl
theorem kc84_73 : zt_code 84 73 = some (.iload 4, 75, 0, 0, []) := rfl
theorem kc84_75 : zt_code 84 75 = some (.ireturn, 76, 0, 0, []) := rfl
theorem kc85_0 : zt_code 85 0 = some (.iconst (-1), 1, 0, 0, []) := rfl
theorem kc85_1 : zt_code 85 1 = some (.istore 4, 3, 0, 0, []) := rfl
theorem kc85_3 : zt_code 85 3 = some (.iconst 0, 4, 0, 0, []) := rfl
theorem kc85_4 : zt_code 85 4 = some (.istore 5, 6, 0, 0, []) := rfl
theorem kc85_6 : zt_code 85 6 = some (.iload 5, 8, 0, 0, []) := rfl
theorem kc85_8 : zt_code 85 8 = some (.aload_n 0, 9, 0, 0, []) := rfl
theorem kc85_9 : zt_code 85 9 = some (.getfield 68, 12, 8, 10, []) := rfl
theorem kc85_12 : zt_code 85 12 = some (.if_icmp .ge 40, 15, 52, 0, []) := rfl
theorem kc85_15 : zt_code 85 15 = some (.aload_n 0, 16, 0, 0, []) := rfl
theorem kc85_16 : zt_code 85 16 = some (.getfield 37, 19, 8, 11, []) := rfl
theorem kc85_19 : zt_code 85 19 = some (.iload 5, 21, 0, 0, []) := rfl
theorem kc85_21 : zt_code 85 21 = some (.iaload, 22, 0, 0, []) := rfl
theorem kc85_22 : zt_code 85 22 = some (.iload_n 1, 23, 0, 0, []) := rfl
theorem kc85_23 : zt_code 85 23 = some (.if_icmp .ne 19, 26, 42, 0, []) := rfl
theorem kc85_26 : zt_code 85 26 = some (.aload_n 0, 27, 0, 0, []) := rfl
theorem kc85_27 : zt_code 85 27 = some (.iload 5, 29, 0, 0, []) := rfl
theorem kc85_29 : zt_code 85 29 = some (.iload_n 2, 30, 0, 0, []) := rfl
theorem kc85_30 : zt_code 85 30 = some (.iload_n 3, 31, 0, 0, []) := rfl
theorem kc85_31 : zt_code 85 31 = some (.invokevirtual 71, 34, 84, 3, []) := rfl
theorem kc85_34 : zt_code 85 34 = some (.ifCond .eq 8, 37, 42, 0, []) := rfl
theorem kc85_37 : zt_code 85 37 = some (.iload 5, 39, 0, 0, []) := rfl
theorem kc85_39 : zt_code 85 39 = some (.goto 5, 42, 44, 0, []) := rfl
theorem kc85_42 : zt_code 85 42 = some (.iload 4, 44, 0, 0, []) := rfl
theorem kc85_44 : zt_code 85 44 = some (.istore 4, 46, 0, 0, []) := rfl
theorem kc85_46 : zt_code 85 46 = some (.iinc 5 1, 49, 0, 0, []) := rfl
theorem kc85_49 : zt_code 85 49 = some (.goto (-43), 52, 6, 0, []) := rfl
theorem kc85_52 : zt_code 85 52 = some (.iload 4, 54, 0, 0, []) := rfl
theorem kc85_54 : zt_code 85 54 = some (.ireturn, 55, 0, 0, []) := rfl
theorem kc86_0 : zt_code 86 0 = some (.iload_n 2, 1, 0, 0, []) := rfl
theorem kc86_1 : zt_code 86 1 = some (.aload_n 0, 2, 0, 0, []) := rfl
theorem kc86_2 : zt_code 86 2 = some (.getfield 23, 5, 8, 6, []) := rfl
theorem kc86_5 : zt_code 86 5 = some (.iload_n 1, 6, 0, 0, []) := rfl
theorem kc86_6 : zt_code 86 6 = some (.iaload, 7, 0, 0, []) := rfl
theorem kc86_7 : zt_code 86 7 = some (.if_icmp .le 20, 10, 27, 0, []) := rfl
theorem kc86_10 : zt_code 86 10 = some (.iload_n 2, 11, 0, 0, []) := rfl
theorem kc86_11 : zt_code 86 11 = some (.invokestatic 61, 14, 77, 1, []) := rfl
theorem kc86_14 : zt_code 86 14 = some (.aload_n 0, 15, 0, 0, []) := rfl
theorem kc86_15 : zt_code 86 15 = some (.getfield 23, 18, 8, 6, []) := rfl
theorem kc86_18 : zt_code 86 18 = some (.iload_n 1, 19, 0, 0, []) := rfl
theorem kc86_19 : zt_code 86 19 = some (.iaload, 20, 0, 0, []) := rfl
theorem kc86_20 : zt_code 86 20 = some (.invokestatic 61, 23, 77, 1, []) := rfl
theorem kc86_23 : zt_code 86 23 = some (.isub, 24, 0, 0, []) := rfl
theorem kc86_24 : zt_code 86 24 = some (.goto 4, 27, 28, 0, []) := rfl
theorem kc86_27 : zt_code 86 27 = some (.iconst 0, 28, 0, 0, []) := rfl
theorem kc86_28 : zt_code 86 28 = some (.ireturn, 29, 0, 0, []) := rfl
theorem kc87_0 : zt_code 87 0 = some (.aload_n 0, 1, 0, 0, []) := rfl
theorem kc87_1 : zt_code 87 1 = some (.getfield 37, 4, 8, 11, []) := rfl
theorem kc87_4 : zt_code 87 4 = some (.aload_n 0, 5, 0, 0, []) := rfl
theorem kc87_5 : zt_code 87 5 = some (.getfield 68, 8, 8, 10, []) := rfl
theorem kc87_8 : zt_code 87 8 = some (.aload_n 0, 9, 0, 0, []) := rfl
theorem kc87_9 : zt_code 87 9 = some (.getfield 75, 12, 8, 17, []) := rfl
theorem kc87_12 : zt_code 87 12 = some (.iastore, 13, 0, 0, []) := rfl
theorem kc87_13 : zt_code 87 13 = some (.aload_n 0, 14, 0, 0, []) := rfl
theorem kc87_14 : zt_code 87 14 = some (.getfield 40, 17, 8, 12, []) := rfl
theorem kc87_17 : zt_code 87 17 = some (.aload_n 0, 18, 0, 0, []) := rfl
theorem kc87_18 : zt_code 87 18 = some (.getfield 68, 21, 8, 10, []) := rfl
theorem kc87_21 : zt_code 87 21 = some (.iload_n 1, 22, 0, 0, []) := rfl
theorem kc87_22 : zt_code 87 22 = some (.iastore, 23, 0, 0, []) := rfl
theorem kc87_23 : zt_code 87 23 = some (.aload_n 0, 24, 0, 0, []) := rfl
theorem kc87_24 : zt_code 87 24 = some (.getfield 43, 27, 8, 13, []) := rfl
theorem kc87_27 : zt_code 87 27 = some (.aload_n 0, 28, 0, 0, []) := rfl
theorem kc87_28 : zt_code 87 28 = some (.getfield 68, 31, 8, 10, []) := rfl
theorem kc87_31 : zt_code 87 31 = some (.aload_n 0, 32, 0, 0, []) := rfl
theorem kc87_32 : zt_code 87 32 = some (.getfield 78, 35, 8, 19, []) := rfl
theorem kc87_35 : zt_code 87 35 = some (.iastore, 36, 0, 0, []) := rfl
theorem kc87_36 : zt_code 87 36 = some (.iconst 0, 37, 0, 0, []) := rfl
theorem kc87_37 : zt_code 87 37 = some (.istore_n 2, 38, 0, 0, []) := rfl
theorem kc87_38 : zt_code 87 38 = some (.iload_n 2, 39, 0, 0, []) := rfl
theorem kc87_39 : zt_code 87 39 = some (.aload_n 0, 40, 0, 0, []) := rfl
theorem kc87_40 : zt_code 87 40 = some (.getfield 78, 43, 8, 19, []) := rfl
theorem kc87_43 : zt_code 87 43 = some (.if_icmp .ge 36, 46, 79, 0, []) := rfl
theorem kc87_46 : zt_code 87 46 = some (.aload_n 0, 47, 0, 0, []) := rfl
theorem kc87_47 : zt_code 87 47 = some (.getfield 46, 50, 8, 14, []) := rfl
theorem kc87_50 : zt_code 87 50 = some (.sipush 255, 53, 0, 0, []) := rfl
theorem kc87_53 : zt_code 87 53 = some (.aload_n 0, 54, 0, 0, []) := rfl
theorem kc87_54 : zt_code 87 54 = some (.getfield 68, 57, 8, 10, []) := rfl
theorem kc87_57 : zt_code 87 57 = some (.imul, 58, 0, 0, []) := rfl
theorem kc87_58 : zt_code 87 58 = some (.iload_n 2, 59, 0, 0, []) := rfl
theorem kc87_59 : zt_code 87 59 = some (.iadd, 60, 0, 0, []) := rfl
theorem kc87_60 : zt_code 87 60 = some (.aload_n 0, 61, 0, 0, []) := rfl
theorem kc87_61 : zt_code 87 61 = some (.getfield 50, 64, 8, 15, []) := rfl
theorem kc87_64 : zt_code 87 64 = some (.aload_n 0, 65, 0, 0, []) := rfl
theorem kc87_65 : zt_code 87 65 = some (.getfield 81, 68, 8, 18, []) := rfl
theorem kc87_68 : zt_code 87 68 = some (.iload_n 2, 69, 0, 0, []) := rfl
theorem kc87_69 : zt_code 87 69 = some (.iadd, 70, 0, 0, []) := rfl
theorem kc87_70 : zt_code 87 70 = some (.iaload, 71, 0, 0, []) := rfl
theorem kc87_71 : zt_code 87 71 = some (.i2b, 72, 0, 0, []) := rfl
theorem kc87_72 : zt_code 87 72 = some (.bastore, 73, 0, 0, []) := rfl
theorem kc87_73 : zt_code 87 73 = some (.iinc 2 1, 76, 0, 0, []) := rfl
theorem kc87_76 : zt_code 87 76 = some (.goto (-38), 79, 38, 0, []) := rfl
theorem kc87_79 : zt_code 87 79 = some (.aload_n 0, 80, 0, 0, []) := rfl
theorem kc87_80 : zt_code 87 80 = some (.dup, 81, 0, 0, []) := rfl
theorem kc87_81 : zt_code 87 81 = some (.getfield 68, 84, 8, 10, []) := rfl
theorem kc87_84 : zt_code 87 84 = some (.iconst 1, 85, 0, 0, []) := rfl
theorem kc87_85 : zt_code 87 85 = some (.iadd, 86, 0, 0, []) := rfl
theorem kc87_86 : zt_code 87 86 = some (.putfield 68, 89, 8, 10, []) := rfl
theorem kc87_89 : zt_code 87 89 = some (.aload_n 0, 90, 0, 0, []) := rfl
theorem kc87_90 : zt_code 87 90 = some (.aload_n 0, 91, 0, 0, []) := rfl
theorem kc87_91 : zt_code 87 91 = some (.getfield 75, 94, 8, 17, []) := rfl
theorem kc87_94 : zt_code 87 94 = some (.invokevirtual 84, 97, 82, 1, []) := rfl
theorem kc87_97 : zt_code 87 97 = some (.istore_n 2, 98, 0, 0, []) := rfl
theorem kc87_98 : zt_code 87 98 = some (.aload_n 0, 99, 0, 0, []) := rfl
theorem kc87_99 : zt_code 87 99 = some (.getfield 23, 102, 8, 6, []) := rfl
theorem kc87_102 : zt_code 87 102 = some (.aload_n 0, 103, 0, 0, []) := rfl
theorem kc87_103 : zt_code 87 103 = some (.getfield 75, 106, 8, 17, []) := rfl
theorem kc87_106 : zt_code 87 106 = some (.iload_n 2, 107, 0, 0, []) := rfl
theorem kc87_107 : zt_code 87 107 = some (.aload_n 0, 108, 0, 0, []) := rfl
theorem kc87_108 : zt_code 87 108 = some (.getfield 23, 111, 8, 6, []) := rfl
theorem kc87_111 : zt_code 87 111 = some (.aload_n 0, 112, 0, 0, []) := rfl
theorem kc87_112 : zt_code 87 112 = some (.getfield 75, 115, 8, 17, []) := rfl
theorem kc87_115 : zt_code 87 115 = some (.iaload, 116, 0, 0, []) := rfl
theorem kc87_116 : zt_code 87 116 = some (.if_icmp .le 7, 119, 123, 0, []) := rfl
theorem kc87_119 : zt_code 87 119 = some (.iload_n 2, 120, 0, 0, []) := rfl
theorem kc87_120 : zt_code 87 120 = some (.goto 12, 123, 132, 0, []) := rfl
theorem kc87_123 : zt_code 87 123 = some (.aload_n 0, 124, 0, 0, []) := rfl
theorem kc87_124 : zt_code 87 124 = some (.getfield 23, 127, 8, 6, []) := rfl
theorem kc87_127 : zt_code 87 127 = some (.aload_n 0, 128, 0, 0, []) := rfl
theorem kc87_128 : zt_code 87 128 = some (.getfield 75, 131, 8, 17, []) := rfl
theorem kc87_131 : zt_code 87 131 = some (.iaload, 132, 0, 0, []) := rfl
theorem kc87_132 : zt_code 87 132 = some (.iastore, 133, 0, 0, []) := rfl
theorem kc87_133 : zt_code 87 133 = some (.return_, 134, 0, 0, []) := rfl
theorem kc88_0 : zt_code 88 0 = some (.aload_n 0, 1, 0, 0, []) := rfl
theorem kc88_1 : zt_code 88 1 = some (.getfield 40, 4, 8, 12, []) := rfl
theorem kc88_4 : zt_code 88 4 = some (.iload_n 1, 5, 0, 0, []) := rfl
theorem kc88_5 : zt_code 88 5 = some (.iaload, 6, 0, 0, []) := rfl
theorem kc88_6 : zt_code 88 6 = some (.istore_n 2, 7, 0, 0, []) := rfl
theorem kc88_7 : zt_code 88 7 = some (.aload_n 0, 8, 0, 0, []) := rfl
theorem kc88_8 : zt_code 88 8 = some (.dup, 9, 0, 0, []) := rfl
theorem kc88_9 : zt_code 88 9 = some (.getfield 68, 12, 8, 10, []) := rfl
theorem kc88_12 : zt_code 88 12 = some (.iconst 1, 13, 0, 0, []) := rfl
theorem kc88_13 : zt_code 88 13 = some (.isub, 14, 0, 0, []) := rfl
theorem kc88_14 : zt_code 88 14 = some (.putfield 68, 17, 8, 10, []) := rfl
theorem kc88_17 : zt_code 88 17 = some (.aload_n 0, 18, 0, 0, []) := rfl
theorem kc88_18 : zt_code 88 18 = some (.getfield 37, 21, 8, 11, []) := rfl
theorem kc88_21 : zt_code 88 21 = some (.iload_n 1, 22, 0, 0, []) := rfl
theorem kc88_22 : zt_code 88 22 = some (.aload_n 0, 23, 0, 0, []) := rfl
theorem kc88_23 : zt_code 88 23 = some (.getfield 37, 26, 8, 11, []) := rfl
theorem kc88_26 : zt_code 88 26 = some (.aload_n 0, 27, 0, 0, []) := rfl
theorem kc88_27 : zt_code 88 27 = some (.getfield 68, 30, 8, 10, []) := rfl
theorem kc88_30 : zt_code 88 30 = some (.iaload, 31, 0, 0, []) := rfl
theorem kc88_31 : zt_code 88 31 = some (.iastore, 32, 0, 0, []) := rfl
theorem kc88_32 : zt_code 88 32 = some (.aload_n 0, 33, 0, 0, []) := rfl
theorem kc88_33 : zt_code 88 33 = some (.getfield 40, 36, 8, 12, []) := rfl
theorem kc88_36 : zt_code 88 36 = some (.iload_n 1, 37, 0, 0, []) := rfl
theorem kc88_37 : zt_code 88 37 = some (.aload_n 0, 38, 0, 0, []) := rfl
theorem kc88_38 : zt_code 88 38 = some (.getfield 40, 41, 8, 12, []) := rfl
theorem kc88_41 : zt_code 88 41 = some (.aload_n 0, 42, 0, 0, []) := rfl
theorem kc88_42 : zt_code 88 42 = some (.getfield 68, 45, 8, 10, []) := rfl
theorem kc88_45 : zt_code 88 45 = some (.iaload, 46, 0, 0, []) := rfl
theorem kc88_46 : zt_code 88 46 = some (.iastore, 47, 0, 0, []) := rfl
theorem kc88_47 : zt_code 88 47 = some (.aload_n 0, 48, 0, 0, []) := rfl
theorem kc88_48 : zt_code 88 48 = some (.getfield 43, 51, 8, 13, []) := rfl
theorem kc88_51 : zt_code 88 51 = some (.iload_n 1, 52, 0, 0, []) := rfl
theorem kc88_52 : zt_code 88 52 = some (.aload_n 0, 53, 0, 0, []) := rfl
theorem kc88_53 : zt_code 88 53 = some (.getfield 43, 56, 8, 13, []) := rfl
theorem kc88_56 : zt_code 88 56 = some (.aload_n 0, 57, 0, 0, []) := rfl
theorem kc88_57 : zt_code 88 57 = some (.getfield 68, 60, 8, 10, []) := rfl
theorem kc88_60 : zt_code 88 60 = some (.iaload, 61, 0, 0, []) := rfl
theorem kc88_61 : zt_code 88 61 = some (.iastore, 62, 0, 0, []) := rfl
theorem kc88_62 : zt_code 88 62 = some (.iconst 0, 63, 0, 0, []) := rfl
theorem kc88_63 : zt_code 88 63 = some (.istore_n 3, 64, 0, 0, []) := rfl
theorem kc88_64 : zt_code 88 64 = some (.iload_n 3, 65, 0, 0, []) := rfl
theorem kc88_65 : zt_code 88 65 = some (.sipush 255, 68, 0, 0, []) := rfl
theorem kc88_68 : zt_code 88 68 = some (.if_icmp .ge 36, 71, 104, 0, []) := rfl
theorem kc88_71 : zt_code 88 71 = some (.aload_n 0, 72, 0, 0, []) := rfl
theorem kc88_72 : zt_code 88 72 = some (.getfield 46, 75, 8, 14, []) := rfl
theorem kc88_75 : zt_code 88 75 = some (.sipush 255, 78, 0, 0, []) := rfl
theorem kc88_78 : zt_code 88 78 = some (.iload_n 1, 79, 0, 0, []) := rfl
theorem kc88_79 : zt_code 88 79 = some (.imul, 80, 0, 0, []) := rfl
theorem kc88_80 : zt_code 88 80 = some (.iload_n 3, 81, 0, 0, []) := rfl
theorem kc88_81 : zt_code 88 81 = some (.iadd, 82, 0, 0, []) := rfl
theorem kc88_82 : zt_code 88 82 = some (.aload_n 0, 83, 0, 0, []) := rfl
theorem kc88_83 : zt_code 88 83 = some (.getfield 46, 86, 8, 14, []) := rfl
theorem kc88_86 : zt_code 88 86 = some (.sipush 255, 89, 0, 0, []) := rfl
theorem kc88_89 : zt_code 88 89 = some (.aload_n 0, 90, 0, 0, []) := rfl
theorem kc88_90 : zt_code 88 90 = some (.getfield 68, 93, 8, 10, []) := rfl
theorem kc88_93 : zt_code 88 93 = some (.imul, 94, 0, 0, []) := rfl
theorem kc88_94 : zt_code 88 94 = some (.iload_n 3, 95, 0, 0, []) := rfl
theorem kc88_95 : zt_code 88 95 = some (.iadd, 96, 0, 0, []) := rfl
theorem kc88_96 : zt_code 88 96 = some (.baload, 97, 0, 0, []) := rfl
theorem kc88_97 : zt_code 88 97 = some (.bastore, 98, 0, 0, []) := rfl
theorem kc88_98 : zt_code 88 98 = some (.iinc 3 1, 101, 0, 0, []) := rfl
theorem kc88_101 : zt_code 88 101 = some (.goto (-37), 104, 64, 0, []) := rfl
theorem kc88_104 : zt_code 88 104 = some (.aload_n 0, 105, 0, 0, []) := rfl
theorem kc88_105 : zt_code 88 105 = some (.iload_n 2, 106, 0, 0, []) := rfl
theorem kc88_106 : zt_code 88 106 = some (.invokevirtual 87, 109, 81, 1, []) := rfl
theorem kc88_109 : zt_code 88 109 = some (.ifCond .ne 19, 112, 128, 0, []) := rfl
theorem kc88_112 : zt_code 88 112 = some (.aload_n 0, 113, 0, 0, []) := rfl
theorem kc88_113 : zt_code 88 113 = some (.getfield 26, 116, 8, 7, []) := rfl
theorem kc88_116 : zt_code 88 116 = some (.iload_n 2, 117, 0, 0, []) := rfl
theorem kc88_117 : zt_code 88 117 = some (.iaload, 118, 0, 0, []) := rfl
theorem kc88_118 : zt_code 88 118 = some (.ifCond .ne 10, 121, 128, 0, []) := rfl
theorem kc88_121 : zt_code 88 121 = some (.aload_n 0, 122, 0, 0, []) := rfl
theorem kc88_122 : zt_code 88 122 = some (.getfield 20, 125, 8, 5, []) := rfl
theorem kc88_125 : zt_code 88 125 = some (.iload_n 2, 126, 0, 0, []) := rfl
theorem kc88_126 : zt_code 88 126 = some (.iconst 0, 127, 0, 0, []) := rfl
theorem kc88_127 : zt_code 88 127 = some (.iastore, 128, 0, 0, []) := rfl
theorem kc88_128 : zt_code 88 128 = some (.return_, 129, 0, 0, []) := rfl
theorem kc89_0 : zt_code 89 0 = some (.aload_n 0, 1, 0, 0, []) := rfl
theorem kc89_1 : zt_code 89 1 = some (.getfield 90, 4, 8, 16, []) := rfl
theorem kc89_4 : zt_code 89 4 = some (.istore_n 1, 5, 0, 0, []) := rfl
theorem kc89_5 : zt_code 89 5 = some (.iload_n 1, 6, 0, 0, []) := rfl
theorem kc89_6 : zt_code 89 6 = some (.ldc 49, 8, 0, 0, [(42000, 0)]) := rfl
theorem kc89_8 : zt_code 89 8 = some (.if_icmp .ge 61, 11, 69, 0, []) := rfl
theorem kc89_11 : zt_code 89 11 = some (.iload_n 1, 12, 0, 0, []) := rfl
theorem kc89_12 : zt_code 89 12 = some (.istore_n 2, 13, 0, 0, []) := rfl
theorem kc89_13 : zt_code 89 13 = some (.iload_n 1, 14, 0, 0, []) := rfl
theorem kc89_14 : zt_code 89 14 = some (.ldc 49, 16, 0, 0, [(42000, 0)]) := rfl
theorem kc89_16 : zt_code 89 16 = some (.if_icmp .ge 20, 19, 36, 0, []) := rfl
theorem kc89_19 : zt_code 89 19 = some (.aload_n 0, 20, 0, 0, []) := rfl
theorem kc89_20 : zt_code 89 20 = some (.getfield 50, 23, 8, 15, []) := rfl
theorem kc89_23 : zt_code 89 23 = some (.iload_n 1, 24, 0, 0, []) := rfl
theorem kc89_24 : zt_code 89 24 = some (.iaload, 25, 0, 0, []) := rfl
theorem kc89_25 : zt_code 89 25 = some (.bipush 47, 27, 0, 0, []) := rfl
theorem kc89_27 : zt_code 89 27 = some (.if_icmp .eq 9, 30, 36, 0, []) := rfl
theorem kc89_30 : zt_code 89 30 = some (.iinc 1 1, 33, 0, 0, []) := rfl
theorem kc89_33 : zt_code 89 33 = some (.goto (-20), 36, 13, 0, []) := rfl
theorem kc89_36 : zt_code 89 36 = some (.iload_n 1, 37, 0, 0, []) := rfl
theorem kc89_37 : zt_code 89 37 = some (.iload_n 2, 38, 0, 0, []) := rfl
theorem kc89_38 : zt_code 89 38 = some (.isub, 39, 0, 0, []) := rfl
theorem kc89_39 : zt_code 89 39 = some (.iconst 1, 40, 0, 0, []) := rfl
theorem kc89_40 : zt_code 89 40 = some (.if_icmp .gt 21, 43, 61, 0, []) := rfl
theorem kc89_43 : zt_code 89 43 = some (.iload_n 1, 44, 0, 0, []) := rfl
theorem kc89_44 : zt_code 89 44 = some (.iload_n 2, 45, 0, 0, []) := rfl
theorem kc89_45 : zt_code 89 45 = some (.isub, 46, 0, 0, []) := rfl
theorem kc89_46 : zt_code 89 46 = some (.iconst 1, 47, 0, 0, []) := rfl
theorem kc89_47 : zt_code 89 47 = some (.if_icmp .ne 16, 50, 63, 0, []) := rfl
theorem kc89_50 : zt_code 89 50 = some (.aload_n 0, 51, 0, 0, []) := rfl
theorem kc89_51 : zt_code 89 51 = some (.getfield 50, 54, 8, 15, []) := rfl
theorem kc89_54 : zt_code 89 54 = some (.iload_n 2, 55, 0, 0, []) := rfl
theorem kc89_55 : zt_code 89 55 = some (.iaload, 56, 0, 0, []) := rfl
theorem kc89_56 : zt_code 89 56 = some (.bipush 46, 58, 0, 0, []) := rfl
theorem kc89_58 : zt_code 89 58 = some (.if_icmp .eq 5, 61, 63, 0, []) := rfl
theorem kc89_61 : zt_code 89 61 = some (.iconst 1, 62, 0, 0, []) := rfl
theorem kc89_62 : zt_code 89 62 = some (.ireturn, 63, 0, 0, []) := rfl
theorem kc89_63 : zt_code 89 63 = some (.iinc 1 1, 66, 0, 0, []) := rfl
theorem kc89_66 : zt_code 89 66 = some (.goto (-61), 69, 5, 0, []) := rfl
theorem kc89_69 : zt_code 89 69 = some (.iconst 0, 70, 0, 0, []) := rfl
theorem kc89_70 : zt_code 89 70 = some (.ireturn, 71, 0, 0, []) := rfl
theorem kc90_0 : zt_code 90 0 = some (.aload_n 0, 1, 0, 0, []) := rfl
theorem kc90_1 : zt_code 90 1 = some (.ldc 49, 3, 0, 0, [(42000, 0)]) := rfl
theorem kc90_3 : zt_code 90 3 = some (.iload_n 2, 4, 0, 0, []) := rfl
theorem kc90_4 : zt_code 90 4 = some (.isub, 5, 0, 0, []) := rfl
theorem kc90_5 : zt_code 90 5 = some (.putfield 90, 8, 8, 16, []) := rfl
theorem kc90_8 : zt_code 90 8 = some (.iconst 0, 9, 0, 0, []) := rfl
theorem kc90_9 : zt_code 90 9 = some (.istore 4, 11, 0, 0, []) := rfl
theorem kc90_11 : zt_code 90 11 = some (.iload 4, 13, 0, 0, []) := rfl
theorem kc90_13 : zt_code 90 13 = some (.iload_n 2, 14, 0, 0, []) := rfl
theorem kc90_14 : zt_code 90 14 = some (.if_icmp .ge 30, 17, 44, 0, []) := rfl
theorem kc90_17 : zt_code 90 17 = some (.aload_n 0, 18, 0, 0, []) := rfl
theorem kc90_18 : zt_code 90 18 = some (.getfield 50, 21, 8, 15, []) := rfl
theorem kc90_21 : zt_code 90 21 = some (.aload_n 0, 22, 0, 0, []) := rfl
theorem kc90_22 : zt_code 90 22 = some (.getfield 90, 25, 8, 16, []) := rfl
theorem kc90_25 : zt_code 90 25 = some (.iload 4, 27, 0, 0, []) := rfl
theorem kc90_27 : zt_code 90 27 = some (.iadd, 28, 0, 0, []) := rfl
theorem kc90_28 : zt_code 90 28 = some (.aload_n 0, 29, 0, 0, []) := rfl
theorem kc90_29 : zt_code 90 29 = some (.getfield 17, 32, 8, 4, []) := rfl
theorem kc90_32 : zt_code 90 32 = some (.iload_n 1, 33, 0, 0, []) := rfl
theorem kc90_33 : zt_code 90 33 = some (.iload 4, 35, 0, 0, []) := rfl
theorem kc90_35 : zt_code 90 35 = some (.iadd, 36, 0, 0, []) := rfl
theorem kc90_36 : zt_code 90 36 = some (.iaload, 37, 0, 0, []) := rfl
theorem kc90_37 : zt_code 90 37 = some (.iastore, 38, 0, 0, []) := rfl
theorem kc90_38 : zt_code 90 38 = some (.iinc 4 1, 41, 0, 0, []) := rfl
theorem kc90_41 : zt_code 90 41 = some (.goto (-30), 44, 11, 0, []) := rfl
theorem kc90_44 : zt_code 90 44 = some (.iconst 0, 45, 0, 0, []) := rfl
theorem kc90_45 : zt_code 90 45 = some (.istore 4, 47, 0, 0, []) := rfl
theorem kc90_47 : zt_code 90 47 = some (.aload_n 0, 48, 0, 0, []) := rfl
theorem kc90_48 : zt_code 90 48 = some (.iconst 1, 49, 0, 0, []) := rfl
theorem kc90_49 : zt_code 90 49 = some (.putfield 93, 52, 8, 20, []) := rfl
theorem kc90_52 : zt_code 90 52 = some (.aload_n 0, 53, 0, 0, []) := rfl
theorem kc90_53 : zt_code 90 53 = some (.iconst 1, 54, 0, 0, []) := rfl
theorem kc90_54 : zt_code 90 54 = some (.putfield 96, 57, 8, 21, []) := rfl
theorem kc90_57 : zt_code 90 57 = some (.aload_n 0, 58, 0, 0, []) := rfl
theorem kc90_58 : zt_code 90 58 = some (.invokevirtual 100, 61, 89, 0, []) := rfl
theorem kc90_61 : zt_code 90 61 = some (.ifCond .eq 333, 64, 394, 0, []) := rfl
theorem kc90_64 : zt_code 90 64 = some (.aload_n 0, 65, 0, 0, []) := rfl
theorem kc90_65 : zt_code 90 65 = some (.getfield 50, 68, 8, 15, []) := rfl
theorem kc90_68 : zt_code 90 68 = some (.aload_n 0, 69, 0, 0, []) := rfl
theorem kc90_69 : zt_code 90 69 = some (.getfield 90, 72, 8, 16, []) := rfl
theorem kc90_72 : zt_code 90 72 = some (.iaload, 73, 0, 0, []) := rfl
theorem kc90_73 : zt_code 90 73 = some (.bipush 47, 75, 0, 0, []) := rfl
theorem kc90_75 : zt_code 90 75 = some (.if_icmp .ne 16, 78, 91, 0, []) := rfl
theorem kc90_78 : zt_code 90 78 = some (.aload_n 0, 79, 0, 0, []) := rfl
theorem kc90_79 : zt_code 90 79 = some (.dup, 80, 0, 0, []) := rfl
theorem kc90_80 : zt_code 90 80 = some (.getfield 90, 83, 8, 16, []) := rfl
theorem kc90_83 : zt_code 90 83 = some (.iconst 1, 84, 0, 0, []) := rfl
theorem kc90_84 : zt_code 90 84 = some (.iadd, 85, 0, 0, []) := rfl
theorem kc90_85 : zt_code 90 85 = some (.putfield 90, 88, 8, 16, []) := rfl
theorem kc90_88 : zt_code 90 88 = some (.goto (-31), 91, 57, 0, []) := rfl
theorem kc90_91 : zt_code 90 91 = some (.aload_n 0, 92, 0, 0, []) := rfl
theorem kc90_92 : zt_code 90 92 = some (.aload_n 0, 93, 0, 0, []) := rfl
theorem kc90_93 : zt_code 90 93 = some (.getfield 90, 96, 8, 16, []) := rfl
theorem kc90_96 : zt_code 90 96 = some (.putfield 81, 99, 8, 18, []) := rfl
theorem kc90_99 : zt_code 90 99 = some (.aload_n 0, 100, 0, 0, []) := rfl
theorem kc90_100 : zt_code 90 100 = some (.getfield 90, 103, 8, 16, []) := rfl
theorem kc90_103 : zt_code 90 103 = some (.ldc 49, 105, 0, 0, [(42000, 0)]) := rfl
theorem kc90_105 : zt_code 90 105 = some (.if_icmp .ge 30, 108, 135, 0, []) := rfl
theorem kc90_108 : zt_code 90 108 = some (.aload_n 0, 109, 0, 0, []) := rfl
theorem kc90_109 : zt_code 90 109 = some (.getfield 50, 112, 8, 15, []) := rfl
theorem kc90_112 : zt_code 90 112 = some (.aload_n 0, 113, 0, 0, []) := rfl
theorem kc90_113 : zt_code 90 113 = some (.getfield 90, 116, 8, 16, []) := rfl
theorem kc90_116 : zt_code 90 116 = some (.iaload, 117, 0, 0, []) := rfl
theorem kc90_117 : zt_code 90 117 = some (.bipush 47, 119, 0, 0, []) := rfl
theorem kc90_119 : zt_code 90 119 = some (.if_icmp .eq 16, 122, 135, 0, []) := rfl
theorem kc90_122 : zt_code 90 122 = some (.aload_n 0, 123, 0, 0, []) := rfl
theorem kc90_123 : zt_code 90 123 = some (.dup, 124, 0, 0, []) := rfl
theorem kc90_124 : zt_code 90 124 = some (.getfield 90, 127, 8, 16, []) := rfl
theorem kc90_127 : zt_code 90 127 = some (.iconst 1, 128, 0, 0, []) := rfl
theorem kc90_128 : zt_code 90 128 = some (.iadd, 129, 0, 0, []) := rfl
theorem kc90_129 : zt_code 90 129 = some (.putfield 90, 132, 8, 16, []) := rfl
theorem kc90_132 : zt_code 90 132 = some (.goto (-33), 135, 99, 0, []) := rfl
theorem kc90_135 : zt_code 90 135 = some (.aload_n 0, 136, 0, 0, []) := rfl
theorem kc90_136 : zt_code 90 136 = some (.aload_n 0, 137, 0, 0, []) := rfl
theorem kc90_137 : zt_code 90 137 = some (.getfield 90, 140, 8, 16, []) := rfl
theorem kc90_140 : zt_code 90 140 = some (.aload_n 0, 141, 0, 0, []) := rfl
theorem kc90_141 : zt_code 90 141 = some (.getfield 81, 144, 8, 18, []) := rfl
theorem kc90_144 : zt_code 90 144 = some (.isub, 145, 0, 0, []) := rfl
theorem kc90_145 : zt_code 90 145 = some (.putfield 78, 148, 8, 19, []) := rfl
theorem kc90_148 : zt_code 90 148 = some (.aload_n 0, 149, 0, 0, []) := rfl
theorem kc90_149 : zt_code 90 149 = some (.getfield 78, 152, 8, 19, []) := rfl
set_option maxRecDepth 20000 in
theorem kc90_152 : zt_code 90 152 = some (.iconst 1, 153, 0, 0, []) := rfl
set_option maxRecDepth 20000 in
theorem kc90_153 : zt_code 90 153 = some (.if_icmp .ne 20, 156, 173, 0, []) := rfl
set_option maxRecDepth 20000 in
theorem kc90_156 : zt_code 90 156 = some (.aload_n 0, 157, 0, 0, []) := rfl
set_option maxRecDepth 20000 in
theorem kc90_157 : zt_code 90 157 = some (.getfield 50, 160, 8, 15, []) := rfl
set_option maxRecDepth 20000 in
theorem kc90_160 : zt_code 90 160 = some (.aload_n 0, 161, 0, 0, []) := rfl
set_option maxRecDepth 20000 in
theorem kc90_161 : zt_code 90 161 = some (.getfield 81, 164, 8, 18, []) := rfl
set_option maxRecDepth 20000 in
theorem kc90_164 : zt_code 90 164 = some (.iaload, 165, 0, 0, []) := rfl
set_option maxRecDepth 20000 in
theorem kc90_165 : zt_code 90 165 = some (.bipush 46, 167, 0, 0, []) := rfl
set_option maxRecDepth 20000 in
theorem kc90_167 : zt_code 90 167 = some (.if_icmp .ne 6, 170, 173, 0, []) := rfl
set_option maxRecDepth 20000 in
theorem kc90_170 : zt_code 90 170 = some (.goto (-113), 173, 57, 0, []) := rfl
set_option maxRecDepth 20000 in
theorem kc90_173 : zt_code 90 173 = some (.aload_n 0, 174, 0, 0, []) := rfl
set_option maxRecDepth 20000 in
theorem kc90_174 : zt_code 90 174 = some (.getfield 78, 177, 8, 19, []) := rfl
set_option maxRecDepth 20000 in
theorem kc90_177 : zt_code 90 177 = some (.sipush 255, 180, 0, 0, []) := rfl
set_option maxRecDepth 20000 in
theorem kc90_180 : zt_code 90 180 = some (.if_icmp .le 6, 183, 186, 0, []) := rfl
set_option maxRecDepth 20000 in
theorem kc90_183 : zt_code 90 183 = some (.bipush (-9), 185, 0, 0, []) := rfl
set_option maxRecDepth 20000 in
theorem kc90_185 : zt_code 90 185 = some (.ireturn, 186, 0, 0, []) := rfl
set_option maxRecDepth 20000 in
theorem kc90_186 : zt_code 90 186 = some (.aload_n 0, 187, 0, 0, []) := rfl
set_option maxRecDepth 20000 in
theorem kc90_187 : zt_code 90 187 = some (.getfield 20, 190, 8, 5, []) := rfl
set_option maxRecDepth 20000 in
theorem kc90_190 : zt_code 90 190 = some (.aload_n 0, 191, 0, 0, []) := rfl
set_option maxRecDepth 20000 in
theorem kc90_191 : zt_code 90 191 = some (.getfield 93, 194, 8, 20, []) := rfl
set_option maxRecDepth 20000 in
theorem kc90_194 : zt_code 90 194 = some (.iaload, 195, 0, 0, []) := rfl
set_option maxRecDepth 20000 in
theorem kc90_195 : zt_code 90 195 = some (.iconst 2, 196, 0, 0, []) := rfl
set_option maxRecDepth 20000 in
theorem kc90_196 : zt_code 90 196 = some (.if_icmp .eq 6, 199, 202, 0, []) := rfl
set_option maxRecDepth 20000 in
theorem kc90_199 : zt_code 90 199 = some (.bipush (-4), 201, 0, 0, []) := rfl
set_option maxRecDepth 20000 in
theorem kc90_201 : zt_code 90 201 = some (.ireturn, 202, 0, 0, []) := rfl
set_option maxRecDepth 20000 in
theorem kc90_202 : zt_code 90 202 = some (.aload_n 0, 203, 0, 0, []) := rfl
set_option maxRecDepth 20000 in
theorem kc90_203 : zt_code 90 203 = some (.invokevirtual 100, 206, 89, 0, []) := rfl
set_option maxRecDepth 20000 in
theorem kc90_206 : zt_code 90 206 = some (.ifCond .ne 7, 209, 213, 0, []) := rfl
set_option maxRecDepth 20000 in
theorem kc90_209 : zt_code 90 209 = some (.iconst 1, 210, 0, 0, []) := rfl
set_option maxRecDepth 20000 in
theorem kc90_210 : zt_code 90 210 = some (.goto 4, 213, 214, 0, []) := rfl
set_option maxRecDepth 20000 in
theorem kc90_213 : zt_code 90 213 = some (.iconst 0, 214, 0, 0, []) := rfl
set_option maxRecDepth 20000 in
theorem kc90_214 : zt_code 90 214 = some (.istore 5, 216, 0, 0, []) := rfl
set_option maxRecDepth 20000 in
theorem kc90_216 : zt_code 90 216 = some (.aload_n 0, 217, 0, 0, []) := rfl
set_option maxRecDepth 20000 in
theorem kc90_217 : zt_code 90 217 = some (.aload_n 0, 218, 0, 0, []) := rfl
set_option maxRecDepth 20000 in
theorem kc90_218 : zt_code 90 218 = some (.getfield 78, 221, 8, 19, []) := rfl
set_option maxRecDepth 20000 in
theorem kc90_221 : zt_code 90 221 = some (.iconst 2, 222, 0, 0, []) := rfl
set_option maxRecDepth 20000 in
theorem kc90_222 : zt_code 90 222 = some (.if_icmp .ne 37, 225, 259, 0, []) := rfl
set_option maxRecDepth 20000 in
theorem kc90_225 : zt_code 90 225 = some (.aload_n 0, 226, 0, 0, []) := rfl
set_option maxRecDepth 20000 in
theorem kc90_226 : zt_code 90 226 = some (.getfield 50, 229, 8, 15, []) := rfl
set_option maxRecDepth 20000 in
theorem kc90_229 : zt_code 90 229 = some (.aload_n 0, 230, 0, 0, []) := rfl
set_option maxRecDepth 20000 in
theorem kc90_230 : zt_code 90 230 = some (.getfield 81, 233, 8, 18, []) := rfl
set_option maxRecDepth 20000 in
theorem kc90_233 : zt_code 90 233 = some (.iaload, 234, 0, 0, []) := rfl
set_option maxRecDepth 20000 in
theorem kc90_234 : zt_code 90 234 = some (.bipush 46, 236, 0, 0, []) := rfl
set_option maxRecDepth 20000 in
theorem kc90_236 : zt_code 90 236 = some (.if_icmp .ne 23, 239, 259, 0, []) := rfl
set_option maxRecDepth 20000 in
theorem kc90_239 : zt_code 90 239 = some (.aload_n 0, 240, 0, 0, []) := rfl
set_option maxRecDepth 20000 in
theorem kc90_240 : zt_code 90 240 = some (.getfield 50, 243, 8, 15, []) := rfl
set_option maxRecDepth 20000 in
theorem kc90_243 : zt_code 90 243 = some (.aload_n 0, 244, 0, 0, []) := rfl
set_option maxRecDepth 20000 in
theorem kc90_244 : zt_code 90 244 = some (.getfield 81, 247, 8, 18, []) := rfl
set_option maxRecDepth 20000 in
theorem kc90_247 : zt_code 90 247 = some (.iconst 1, 248, 0, 0, []) := rfl
set_option maxRecDepth 20000 in
theorem kc90_248 : zt_code 90 248 = some (.iadd, 249, 0, 0, []) := rfl
set_option maxRecDepth 20000 in
theorem kc90_249 : zt_code 90 249 = some (.iaload, 250, 0, 0, []) := rfl
set_option maxRecDepth 20000 in
theorem kc90_250 : zt_code 90 250 = some (.bipush 46, 252, 0, 0, []) := rfl
set_option maxRecDepth 20000 in
theorem kc90_252 : zt_code 90 252 = some (.if_icmp .ne 7, 255, 259, 0, []) := rfl
set_option maxRecDepth 20000 in
theorem kc90_255 : zt_code 90 255 = some (.iconst 1, 256, 0, 0, []) := rfl
set_option maxRecDepth 20000 in
theorem kc90_256 : zt_code 90 256 = some (.goto 4, 259, 260, 0, []) := rfl
set_option maxRecDepth 20000 in
theorem kc90_259 : zt_code 90 259 = some (.iconst 0, 260, 0, 0, []) := rfl
set_option maxRecDepth 20000 in
theorem kc90_260 : zt_code 90 260 = some (.putfield 96, 263, 8, 21, []) := rfl
set_option maxRecDepth 20000 in
theorem kc90_263 : zt_code 90 263 = some (.aload_n 0, 264, 0, 0, []) := rfl
set_option maxRecDepth 20000 in
theorem kc90_264 : zt_code 90 264 = some (.getfield 96, 267, 8, 21, []) := rfl
set_option maxRecDepth 20000 in
theorem kc90_267 : zt_code 90 267 = some (.ifCond .eq 18, 270, 285, 0, []) := rfl
set_option maxRecDepth 20000 in
theorem kc90_270 : zt_code 90 270 = some (.aload_n 0, 271, 0, 0, []) := rfl
set_option maxRecDepth 20000 in
theorem kc90_271 : zt_code 90 271 = some (.aload_n 0, 272, 0, 0, []) := rfl
set_option maxRecDepth 20000 in
theorem kc90_272 : zt_code 90 272 = some (.aload_n 0, 273, 0, 0, []) := rfl
set_option maxRecDepth 20000 in
theorem kc90_273 : zt_code 90 273 = some (.getfield 93, 276, 8, 20, []) := rfl
set_option maxRecDepth 20000 in
theorem kc90_276 : zt_code 90 276 = some (.invokevirtual 104, 279, 83, 1, []) := rfl
set_option maxRecDepth 20000 in
theorem kc90_279 : zt_code 90 279 = some (.putfield 93, 282, 8, 20, []) := rfl
set_option maxRecDepth 20000 in
theorem kc90_282 : zt_code 90 282 = some (.goto (-225), 285, 57, 0, []) := rfl
set_option maxRecDepth 20000 in
theorem kc90_285 : zt_code 90 285 = some (.aload_n 0, 286, 0, 0, []) := rfl
set_option maxRecDepth 20000 in
theorem kc90_286 : zt_code 90 286 = some (.aload_n 0, 287, 0, 0, []) := rfl
set_option maxRecDepth 20000 in
theorem kc90_287 : zt_code 90 287 = some (.getfield 93, 290, 8, 20, []) := rfl
set_option maxRecDepth 20000 in
theorem kc90_290 : zt_code 90 290 = some (.putfield 75, 293, 8, 17, []) := rfl
set_option maxRecDepth 20000 in
theorem kc90_293 : zt_code 90 293 = some (.aload_n 0, 294, 0, 0, []) := rfl
set_option maxRecDepth 20000 in
theorem kc90_294 : zt_code 90 294 = some (.aload_n 0, 295, 0, 0, []) := rfl
set_option maxRecDepth 20000 in
theorem kc90_295 : zt_code 90 295 = some (.getfield 75, 298, 8, 17, []) := rfl
set_option maxRecDepth 20000 in
theorem kc90_298 : zt_code 90 298 = some (.aload_n 0, 299, 0, 0, []) := rfl
set_option maxRecDepth 20000 in
theorem kc90_299 : zt_code 90 299 = some (.getfield 81, 302, 8, 18, []) := rfl
set_option maxRecDepth 20000 in
theorem kc90_302 : zt_code 90 302 = some (.aload_n 0, 303, 0, 0, []) := rfl
set_option maxRecDepth 20000 in
theorem kc90_303 : zt_code 90 303 = some (.getfield 78, 306, 8, 19, []) := rfl
set_option maxRecDepth 20000 in
theorem kc90_306 : zt_code 90 306 = some (.invokevirtual 107, 309, 85, 3, []) := rfl
set_option maxRecDepth 20000 in
theorem kc90_309 : zt_code 90 309 = some (.istore 6, 311, 0, 0, []) := rfl
set_option maxRecDepth 20000 in
theorem kc90_311 : zt_code 90 311 = some (.aload_n 0, 312, 0, 0, []) := rfl
set_option maxRecDepth 20000 in
theorem kc90_312 : zt_code 90 312 = some (.iload 6, 314, 0, 0, []) := rfl
set_option maxRecDepth 20000 in
theorem kc90_314 : zt_code 90 314 = some (.ifCond .ge 7, 317, 321, 0, []) := rfl
set_option maxRecDepth 20000 in
theorem kc90_317 : zt_code 90 317 = some (.iconst 0, 318, 0, 0, []) := rfl
set_option maxRecDepth 20000 in
theorem kc90_318 : zt_code 90 318 = some (.goto 10, 321, 328, 0, []) := rfl
set_option maxRecDepth 20000 in
theorem kc90_321 : zt_code 90 321 = some (.aload_n 0, 322, 0, 0, []) := rfl
set_option maxRecDepth 20000 in
theorem kc90_322 : zt_code 90 322 = some (.getfield 40, 325, 8, 12, []) := rfl
set_option maxRecDepth 20000 in
theorem kc90_325 : zt_code 90 325 = some (.iload 6, 327, 0, 0, []) := rfl
set_option maxRecDepth 20000 in
theorem kc90_327 : zt_code 90 327 = some (.iaload, 328, 0, 0, []) := rfl
set_option maxRecDepth 20000 in
theorem kc90_328 : zt_code 90 328 = some (.putfield 93, 331, 8, 20, []) := rfl
set_option maxRecDepth 20000 in
theorem kc90_331 : zt_code 90 331 = some (.iload 6, 333, 0, 0, []) := rfl
set_option maxRecDepth 20000 in
theorem kc90_333 : zt_code 90 333 = some (.ifCond .ge 15, 336, 348, 0, []) := rfl
set_option maxRecDepth 20000 in
theorem kc90_336 : zt_code 90 336 = some (.iload 5, 338, 0, 0, []) := rfl
set_option maxRecDepth 20000 in
theorem kc90_338 : zt_code 90 338 = some (.ifCond .eq 7, 341, 345, 0, []) := rfl
set_option maxRecDepth 20000 in
theorem kc90_341 : zt_code 90 341 = some (.iconst 0, 342, 0, 0, []) := rfl
set_option maxRecDepth 20000 in
theorem kc90_342 : zt_code 90 342 = some (.goto 5, 345, 347, 0, []) := rfl
set_option maxRecDepth 20000 in
theorem kc90_345 : zt_code 90 345 = some (.bipush (-2), 347, 0, 0, []) := rfl
set_option maxRecDepth 20000 in
theorem kc90_347 : zt_code 90 347 = some (.ireturn, 348, 0, 0, []) := rfl
set_option maxRecDepth 20000 in
theorem kc90_348 : zt_code 90 348 = some (.aload_n 0, 349, 0, 0, []) := rfl
set_option maxRecDepth 20000 in
theorem kc90_349 : zt_code 90 349 = some (.getfield 20, 352, 8, 5, []) := rfl
set_option maxRecDepth 20000 in
theorem kc90_352 : zt_code 90 352 = some (.aload_n 0, 353, 0, 0, []) := rfl
set_option maxRecDepth 20000 in
theorem kc90_353 : zt_code 90 353 = some (.getfield 93, 356, 8, 20, []) := rfl
set_option maxRecDepth 20000 in
theorem kc90_356 : zt_code 90 356 = some (.iaload, 357, 0, 0, []) := rfl
set_option maxRecDepth 20000 in
theorem kc90_357 : zt_code 90 357 = some (.iconst 3, 358, 0, 0, []) := rfl
set_option maxRecDepth 20000 in
theorem kc90_358 : zt_code 90 358 = some (.if_icmp .ne 33, 361, 391, 0, []) := rfl
set_option maxRecDepth 20000 in
theorem kc90_361 : zt_code 90 361 = some (.iload 5, 363, 0, 0, []) := rfl
set_option maxRecDepth 20000 in
theorem kc90_363 : zt_code 90 363 = some (.ifCond .eq 7, 366, 370, 0, []) := rfl
set_option maxRecDepth 20000 in
theorem kc90_366 : zt_code 90 366 = some (.iload_n 3, 367, 0, 0, []) := rfl
set_option maxRecDepth 20000 in
theorem kc90_367 : zt_code 90 367 = some (.ifCond .eq 24, 370, 391, 0, []) := rfl
set_option maxRecDepth 20000 in
theorem kc90_370 : zt_code 90 370 = some (.iload 4, 372, 0, 0, []) := rfl
set_option maxRecDepth 20000 in
theorem kc90_372 : zt_code 90 372 = some (.bipush 40, 374, 0, 0, []) := rfl
set_option maxRecDepth 20000 in
theorem kc90_374 : zt_code 90 374 = some (.if_icmp .ne 6, 377, 380, 0, []) := rfl
set_option maxRecDepth 20000 in
theorem kc90_377 : zt_code 90 377 = some (.bipush (-8), 379, 0, 0, []) := rfl
set_option maxRecDepth 20000 in
theorem kc90_379 : zt_code 90 379 = some (.ireturn, 380, 0, 0, []) := rfl
set_option maxRecDepth 20000 in
theorem kc90_380 : zt_code 90 380 = some (.iinc 4 1, 383, 0, 0, []) := rfl
set_option maxRecDepth 20000 in
theorem kc90_383 : zt_code 90 383 = some (.aload_n 0, 384, 0, 0, []) := rfl
set_option maxRecDepth 20000 in
theorem kc90_384 : zt_code 90 384 = some (.aload_n 0, 385, 0, 0, []) := rfl
set_option maxRecDepth 20000 in
theorem kc90_385 : zt_code 90 385 = some (.getfield 93, 388, 8, 20, []) := rfl
set_option maxRecDepth 20000 in
theorem kc90_388 : zt_code 90 388 = some (.invokevirtual 111, 391, 91, 1, []) := rfl
set_option maxRecDepth 20000 in
theorem kc90_391 : zt_code 90 391 = some (.goto (-334), 394, 57, 0, []) := rfl
set_option maxRecDepth 20000 in
theorem kc90_394 : zt_code 90 394 = some (.iconst 0, 395, 0, 0, []) := rfl
set_option maxRecDepth 20000 in
theorem kc90_395 : zt_code 90 395 = some (.ireturn, 396, 0, 0, []) := rfl
theorem kc91_0 : zt_code 91 0 = some (.aload_n 0, 1, 0, 0, []) := rfl
theorem kc91_1 : zt_code 91 1 = some (.dup, 2, 0, 0, []) := rfl
theorem kc91_2 : zt_code 91 2 = some (.getfield 90, 5, 8, 16, []) := rfl
theorem kc91_5 : zt_code 91 5 = some (.iconst 1, 6, 0, 0, []) := rfl
theorem kc91_6 : zt_code 91 6 = some (.isub, 7, 0, 0, []) := rfl
theorem kc91_7 : zt_code 91 7 = some (.putfield 90, 10, 8, 16, []) := rfl
theorem kc91_10 : zt_code 91 10 = some (.aload_n 0, 11, 0, 0, []) := rfl
theorem kc91_11 : zt_code 91 11 = some (.getfield 50, 14, 8, 15, []) := rfl
theorem kc91_14 : zt_code 91 14 = some (.aload_n 0, 15, 0, 0, []) := rfl
theorem kc91_15 : zt_code 91 15 = some (.getfield 90, 18, 8, 16, []) := rfl
theorem kc91_18 : zt_code 91 18 = some (.bipush 47, 20, 0, 0, []) := rfl
theorem kc91_20 : zt_code 91 20 = some (.iastore, 21, 0, 0, []) := rfl
theorem kc91_21 : zt_code 91 21 = some (.aload_n 0, 22, 0, 0, []) := rfl
theorem kc91_22 : zt_code 91 22 = some (.dup, 23, 0, 0, []) := rfl
theorem kc91_23 : zt_code 91 23 = some (.getfield 90, 26, 8, 16, []) := rfl
theorem kc91_26 : zt_code 91 26 = some (.aload_n 0, 27, 0, 0, []) := rfl
theorem kc91_27 : zt_code 91 27 = some (.getfield 29, 30, 8, 8, []) := rfl
theorem kc91_30 : zt_code 91 30 = some (.iload_n 1, 31, 0, 0, []) := rfl
theorem kc91_31 : zt_code 91 31 = some (.iaload, 32, 0, 0, []) := rfl
theorem kc91_32 : zt_code 91 32 = some (.isub, 33, 0, 0, []) := rfl
theorem kc91_33 : zt_code 91 33 = some (.putfield 90, 36, 8, 16, []) := rfl
theorem kc91_36 : zt_code 91 36 = some (.iconst 0, 37, 0, 0, []) := rfl
theorem kc91_37 : zt_code 91 37 = some (.istore_n 2, 38, 0, 0, []) := rfl
theorem kc91_38 : zt_code 91 38 = some (.iload_n 2, 39, 0, 0, []) := rfl
theorem kc91_39 : zt_code 91 39 = some (.aload_n 0, 40, 0, 0, []) := rfl
theorem kc91_40 : zt_code 91 40 = some (.getfield 29, 43, 8, 8, []) := rfl
theorem kc91_43 : zt_code 91 43 = some (.iload_n 1, 44, 0, 0, []) := rfl
theorem kc91_44 : zt_code 91 44 = some (.iaload, 45, 0, 0, []) := rfl
theorem kc91_45 : zt_code 91 45 = some (.if_icmp .ge 36, 48, 81, 0, []) := rfl
theorem kc91_48 : zt_code 91 48 = some (.aload_n 0, 49, 0, 0, []) := rfl
theorem kc91_49 : zt_code 91 49 = some (.getfield 50, 52, 8, 15, []) := rfl
theorem kc91_52 : zt_code 91 52 = some (.aload_n 0, 53, 0, 0, []) := rfl
theorem kc91_53 : zt_code 91 53 = some (.getfield 90, 56, 8, 16, []) := rfl
theorem kc91_56 : zt_code 91 56 = some (.iload_n 2, 57, 0, 0, []) := rfl
theorem kc91_57 : zt_code 91 57 = some (.iadd, 58, 0, 0, []) := rfl
theorem kc91_58 : zt_code 91 58 = some (.aload_n 0, 59, 0, 0, []) := rfl
theorem kc91_59 : zt_code 91 59 = some (.getfield 33, 62, 8, 9, []) := rfl
theorem kc91_62 : zt_code 91 62 = some (.sipush 1000, 65, 0, 0, []) := rfl
theorem kc91_65 : zt_code 91 65 = some (.iload_n 1, 66, 0, 0, []) := rfl
theorem kc91_66 : zt_code 91 66 = some (.imul, 67, 0, 0, []) := rfl
theorem kc91_67 : zt_code 91 67 = some (.iload_n 2, 68, 0, 0, []) := rfl
theorem kc91_68 : zt_code 91 68 = some (.iadd, 69, 0, 0, []) := rfl
theorem kc91_69 : zt_code 91 69 = some (.baload, 70, 0, 0, []) := rfl
theorem kc91_70 : zt_code 91 70 = some (.sipush 255, 73, 0, 0, []) := rfl
theorem kc91_73 : zt_code 91 73 = some (.iand, 74, 0, 0, []) := rfl
theorem kc91_74 : zt_code 91 74 = some (.iastore, 75, 0, 0, []) := rfl
theorem kc91_75 : zt_code 91 75 = some (.iinc 2 1, 78, 0, 0, []) := rfl
theorem kc91_78 : zt_code 91 78 = some (.goto (-40), 81, 38, 0, []) := rfl
theorem kc91_81 : zt_code 91 81 = some (.aload_n 0, 82, 0, 0, []) := rfl
theorem kc91_82 : zt_code 91 82 = some (.aload_n 0, 83, 0, 0, []) := rfl
theorem kc91_83 : zt_code 91 83 = some (.getfield 50, 86, 8, 15, []) := rfl
theorem kc91_86 : zt_code 91 86 = some (.aload_n 0, 87, 0, 0, []) := rfl
theorem kc91_87 : zt_code 91 87 = some (.getfield 90, 90, 8, 16, []) := rfl
theorem kc91_90 : zt_code 91 90 = some (.iaload, 91, 0, 0, []) := rfl
theorem kc91_91 : zt_code 91 91 = some (.bipush 47, 93, 0, 0, []) := rfl
theorem kc91_93 : zt_code 91 93 = some (.if_icmp .ne 7, 96, 100, 0, []) := rfl
theorem kc91_96 : zt_code 91 96 = some (.iconst 1, 97, 0, 0, []) := rfl
theorem kc91_97 : zt_code 91 97 = some (.goto 7, 100, 104, 0, []) := rfl
theorem kc91_100 : zt_code 91 100 = some (.aload_n 0, 101, 0, 0, []) := rfl
theorem kc91_101 : zt_code 91 101 = some (.getfield 75, 104, 8, 17, []) := rfl
theorem kc91_104 : zt_code 91 104 = some (.putfield 93, 107, 8, 20, []) := rfl
theorem kc91_107 : zt_code 91 107 = some (.aload_n 0, 108, 0, 0, []) := rfl
theorem kc91_108 : zt_code 91 108 = some (.iconst 1, 109, 0, 0, []) := rfl
theorem kc91_109 : zt_code 91 109 = some (.putfield 96, 112, 8, 21, []) := rfl
theorem kc91_112 : zt_code 91 112 = some (.return_, 113, 0, 0, []) := rfl
theorem kc92_0 : zt_code 92 0 = some (.aload_n 0, 1, 0, 0, []) := rfl
theorem kc92_1 : zt_code 92 1 = some (.iload_n 1, 2, 0, 0, []) := rfl
theorem kc92_2 : zt_code 92 2 = some (.iload_n 2, 3, 0, 0, []) := rfl
theorem kc92_3 : zt_code 92 3 = some (.iconst 0, 4, 0, 0, []) := rfl
theorem kc92_4 : zt_code 92 4 = some (.invokevirtual 115, 7, 90, 3, []) := rfl
theorem kc92_7 : zt_code 92 7 = some (.istore_n 3, 8, 0, 0, []) := rfl
theorem kc92_8 : zt_code 92 8 = some (.iload_n 3, 9, 0, 0, []) := rfl
theorem kc92_9 : zt_code 92 9 = some (.ifCond .ge 7, 12, 16, 0, []) := rfl
theorem kc92_12 : zt_code 92 12 = some (.iload_n 3, 13, 0, 0, []) := rfl
theorem kc92_13 : zt_code 92 13 = some (.goto 15, 16, 28, 0, []) := rfl
theorem kc92_16 : zt_code 92 16 = some (.aload_n 0, 17, 0, 0, []) := rfl
theorem kc92_17 : zt_code 92 17 = some (.getfield 96, 20, 8, 21, []) := rfl
theorem kc92_20 : zt_code 92 20 = some (.ifCond .eq 7, 23, 27, 0, []) := rfl
theorem kc92_23 : zt_code 92 23 = some (.iconst (-1), 24, 0, 0, []) := rfl
theorem kc92_24 : zt_code 92 24 = some (.goto 4, 27, 28, 0, []) := rfl
theorem kc92_27 : zt_code 92 27 = some (.iconst 0, 28, 0, 0, []) := rfl
theorem kc92_28 : zt_code 92 28 = some (.ireturn, 29, 0, 0, []) := rfl
theorem kc93_0 : zt_code 93 0 = some (.iload_n 1, 1, 0, 0, []) := rfl
theorem kc93_1 : zt_code 93 1 = some (.sipush 200, 4, 0, 0, []) := rfl
theorem kc93_4 : zt_code 93 4 = some (.if_icmp .gt 11, 7, 15, 0, []) := rfl
theorem kc93_7 : zt_code 93 7 = some (.iload_n 1, 8, 0, 0, []) := rfl
theorem kc93_8 : zt_code 93 8 = some (.aload_n 0, 9, 0, 0, []) := rfl
theorem kc93_9 : zt_code 93 9 = some (.invokevirtual 119, 12, 79, 0, []) := rfl
theorem kc93_12 : zt_code 93 12 = some (.if_icmp .ge 5, 15, 17, 0, []) := rfl
theorem kc93_15 : zt_code 93 15 = some (.iconst (-1), 16, 0, 0, []) := rfl
theorem kc93_16 : zt_code 93 16 = some (.ireturn, 17, 0, 0, []) := rfl
theorem kc93_17 : zt_code 93 17 = some (.aload_n 0, 18, 0, 0, []) := rfl
theorem kc93_18 : zt_code 93 18 = some (.iload_n 1, 19, 0, 0, []) := rfl
theorem kc93_19 : zt_code 93 19 = some (.putfield 7, 22, 8, 0, []) := rfl
theorem kc93_22 : zt_code 93 22 = some (.aload_n 0, 23, 0, 0, []) := rfl
theorem kc93_23 : zt_code 93 23 = some (.getfield 7, 26, 8, 0, []) := rfl
theorem kc93_26 : zt_code 93 26 = some (.aload_n 0, 27, 0, 0, []) := rfl
theorem kc93_27 : zt_code 93 27 = some (.invokevirtual 119, 30, 79, 0, []) := rfl
theorem kc93_30 : zt_code 93 30 = some (.isub, 31, 0, 0, []) := rfl
theorem kc93_31 : zt_code 93 31 = some (.ireturn, 32, 0, 0, []) := rfl
theorem kc94_0 : zt_code 94 0 = some (.iconst 2, 1, 0, 0, []) := rfl
theorem kc94_1 : zt_code 94 1 = some (.istore_n 3, 2, 0, 0, []) := rfl
theorem kc94_2 : zt_code 94 2 = some (.iload_n 3, 3, 0, 0, []) := rfl
theorem kc94_3 : zt_code 94 3 = some (.bipush 40, 5, 0, 0, []) := rfl
theorem kc94_5 : zt_code 94 5 = some (.if_icmp .gt 18, 8, 23, 0, []) := rfl
theorem kc94_8 : zt_code 94 8 = some (.aload_n 0, 9, 0, 0, []) := rfl
theorem kc94_9 : zt_code 94 9 = some (.getfield 20, 12, 8, 5, []) := rfl
theorem kc94_12 : zt_code 94 12 = some (.iload_n 3, 13, 0, 0, []) := rfl
theorem kc94_13 : zt_code 94 13 = some (.iaload, 14, 0, 0, []) := rfl
theorem kc94_14 : zt_code 94 14 = some (.ifCond .le 9, 17, 23, 0, []) := rfl
theorem kc94_17 : zt_code 94 17 = some (.iinc 3 1, 20, 0, 0, []) := rfl
theorem kc94_20 : zt_code 94 20 = some (.goto (-18), 23, 2, 0, []) := rfl
theorem kc94_23 : zt_code 94 23 = some (.iload_n 3, 24, 0, 0, []) := rfl
theorem kc94_24 : zt_code 94 24 = some (.bipush 40, 26, 0, 0, []) := rfl
theorem kc94_26 : zt_code 94 26 = some (.if_icmp .gt 44, 29, 70, 0, []) := rfl
theorem kc94_29 : zt_code 94 29 = some (.aload_n 0, 30, 0, 0, []) := rfl
theorem kc94_30 : zt_code 94 30 = some (.getfield 68, 33, 8, 10, []) := rfl
theorem kc94_33 : zt_code 94 33 = some (.bipush 60, 35, 0, 0, []) := rfl
theorem kc94_35 : zt_code 94 35 = some (.if_icmp .eq 35, 38, 70, 0, []) := rfl
theorem kc94_38 : zt_code 94 38 = some (.aload_n 0, 39, 0, 0, []) := rfl
theorem kc94_39 : zt_code 94 39 = some (.invokevirtual 119, 42, 79, 0, []) := rfl
theorem kc94_42 : zt_code 94 42 = some (.iload_n 2, 43, 0, 0, []) := rfl
theorem kc94_43 : zt_code 94 43 = some (.iadd, 44, 0, 0, []) := rfl
theorem kc94_44 : zt_code 94 44 = some (.aload_n 0, 45, 0, 0, []) := rfl
theorem kc94_45 : zt_code 94 45 = some (.aload_n 0, 46, 0, 0, []) := rfl
theorem kc94_46 : zt_code 94 46 = some (.getfield 75, 49, 8, 17, []) := rfl
theorem kc94_49 : zt_code 94 49 = some (.aload_n 0, 50, 0, 0, []) := rfl
theorem kc94_50 : zt_code 94 50 = some (.aload_n 0, 51, 0, 0, []) := rfl
theorem kc94_51 : zt_code 94 51 = some (.getfield 75, 54, 8, 17, []) := rfl
theorem kc94_54 : zt_code 94 54 = some (.invokevirtual 84, 57, 82, 1, []) := rfl
theorem kc94_57 : zt_code 94 57 = some (.iconst 1, 58, 0, 0, []) := rfl
theorem kc94_58 : zt_code 94 58 = some (.iadd, 59, 0, 0, []) := rfl
theorem kc94_59 : zt_code 94 59 = some (.invokevirtual 123, 62, 86, 2, []) := rfl
theorem kc94_62 : zt_code 94 62 = some (.iadd, 63, 0, 0, []) := rfl
theorem kc94_63 : zt_code 94 63 = some (.aload_n 0, 64, 0, 0, []) := rfl
theorem kc94_64 : zt_code 94 64 = some (.getfield 7, 67, 8, 0, []) := rfl
theorem kc94_67 : zt_code 94 67 = some (.if_icmp .le 6, 70, 73, 0, []) := rfl
theorem kc94_70 : zt_code 94 70 = some (.bipush (-7), 72, 0, 0, []) := rfl
theorem kc94_72 : zt_code 94 72 = some (.ireturn, 73, 0, 0, []) := rfl
theorem kc94_73 : zt_code 94 73 = some (.aload_n 0, 74, 0, 0, []) := rfl
theorem kc94_74 : zt_code 94 74 = some (.getfield 20, 77, 8, 5, []) := rfl
theorem kc94_77 : zt_code 94 77 = some (.iload_n 3, 78, 0, 0, []) := rfl
theorem kc94_78 : zt_code 94 78 = some (.iload_n 1, 79, 0, 0, []) := rfl
theorem kc94_79 : zt_code 94 79 = some (.iastore, 80, 0, 0, []) := rfl
theorem kc94_80 : zt_code 94 80 = some (.aload_n 0, 81, 0, 0, []) := rfl
theorem kc94_81 : zt_code 94 81 = some (.getfield 23, 84, 8, 6, []) := rfl
theorem kc94_84 : zt_code 94 84 = some (.iload_n 3, 85, 0, 0, []) := rfl
theorem kc94_85 : zt_code 94 85 = some (.iconst 0, 86, 0, 0, []) := rfl
theorem kc94_86 : zt_code 94 86 = some (.iastore, 87, 0, 0, []) := rfl
theorem kc94_87 : zt_code 94 87 = some (.aload_n 0, 88, 0, 0, []) := rfl
theorem kc94_88 : zt_code 94 88 = some (.getfield 26, 91, 8, 7, []) := rfl
theorem kc94_91 : zt_code 94 91 = some (.iload_n 3, 92, 0, 0, []) := rfl
theorem kc94_92 : zt_code 94 92 = some (.iconst 0, 93, 0, 0, []) := rfl
theorem kc94_93 : zt_code 94 93 = some (.iastore, 94, 0, 0, []) := rfl
theorem kc94_94 : zt_code 94 94 = some (.aload_n 0, 95, 0, 0, []) := rfl
theorem kc94_95 : zt_code 94 95 = some (.iload_n 3, 96, 0, 0, []) := rfl
theorem kc94_96 : zt_code 94 96 = some (.invokevirtual 127, 99, 87, 1, []) := rfl
theorem kc94_99 : zt_code 94 99 = some (.iload_n 3, 100, 0, 0, []) := rfl
theorem kc94_100 : zt_code 94 100 = some (.ireturn, 101, 0, 0, []) := rfl
theorem kc95_0 : zt_code 95 0 = some (.aload_n 0, 1, 0, 0, []) := rfl
theorem kc95_1 : zt_code 95 1 = some (.invokevirtual 130, 4, 76, 0, []) := rfl
theorem kc95_4 : zt_code 95 4 = some (.istore_n 2, 5, 0, 0, []) := rfl
theorem kc95_5 : zt_code 95 5 = some (.iload_n 1, 6, 0, 0, []) := rfl
theorem kc95_6 : zt_code 95 6 = some (.iconst 1, 7, 0, 0, []) := rfl
theorem kc95_7 : zt_code 95 7 = some (.if_icmp .eq 8, 10, 15, 0, []) := rfl
theorem kc95_10 : zt_code 95 10 = some (.iload_n 1, 11, 0, 0, []) := rfl
theorem kc95_11 : zt_code 95 11 = some (.iconst 2, 12, 0, 0, []) := rfl
theorem kc95_12 : zt_code 95 12 = some (.if_icmp .ne 8, 15, 20, 0, []) := rfl
theorem kc95_15 : zt_code 95 15 = some (.iload_n 2, 16, 0, 0, []) := rfl
theorem kc95_16 : zt_code 95 16 = some (.iconst (-1), 17, 0, 0, []) := rfl
theorem kc95_17 : zt_code 95 17 = some (.if_icmp .eq 5, 20, 22, 0, []) := rfl
theorem kc95_20 : zt_code 95 20 = some (.iconst (-1), 21, 0, 0, []) := rfl
theorem kc95_21 : zt_code 95 21 = some (.ireturn, 22, 0, 0, []) := rfl
theorem kc95_22 : zt_code 95 22 = some (.aload_n 0, 23, 0, 0, []) := rfl
theorem kc95_23 : zt_code 95 23 = some (.iconst 0, 24, 0, 0, []) := rfl
theorem kc95_24 : zt_code 95 24 = some (.aload_n 0, 25, 0, 0, []) := rfl
theorem kc95_25 : zt_code 95 25 = some (.getfield 58, 28, 8, 3, []) := rfl
theorem kc95_28 : zt_code 95 28 = some (.invokevirtual 133, 31, 92, 2, []) := rfl
theorem kc95_31 : zt_code 95 31 = some (.istore_n 3, 32, 0, 0, []) := rfl
theorem kc95_32 : zt_code 95 32 = some (.iload_n 3, 33, 0, 0, []) := rfl
theorem kc95_33 : zt_code 95 33 = some (.ifCond .ge 5, 36, 38, 0, []) := rfl
theorem kc95_36 : zt_code 95 36 = some (.iload_n 3, 37, 0, 0, []) := rfl
theorem kc95_37 : zt_code 95 37 = some (.ireturn, 38, 0, 0, []) := rfl
theorem kc95_38 : zt_code 95 38 = some (.aload_n 0, 39, 0, 0, []) := rfl
theorem kc95_39 : zt_code 95 39 = some (.getfield 93, 42, 8, 20, []) := rfl
theorem kc95_42 : zt_code 95 42 = some (.ifCond .le 8, 45, 50, 0, []) := rfl
theorem kc95_45 : zt_code 95 45 = some (.bipush (-3), 47, 0, 0, []) := rfl
theorem kc95_47 : zt_code 95 47 = some (.goto 9, 50, 56, 0, []) := rfl
theorem kc95_50 : zt_code 95 50 = some (.aload_n 0, 51, 0, 0, []) := rfl
theorem kc95_51 : zt_code 95 51 = some (.iload_n 1, 52, 0, 0, []) := rfl
theorem kc95_52 : zt_code 95 52 = some (.iconst 1, 53, 0, 0, []) := rfl
theorem kc95_53 : zt_code 95 53 = some (.invokevirtual 136, 56, 94, 2, []) := rfl
theorem kc95_56 : zt_code 95 56 = some (.ireturn, 57, 0, 0, []) := rfl
theorem kc96_0 : zt_code 96 0 = some (.aload_n 0, 1, 0, 0, []) := rfl
theorem kc96_1 : zt_code 96 1 = some (.invokevirtual 130, 4, 76, 0, []) := rfl
theorem kc96_4 : zt_code 96 4 = some (.istore_n 1, 5, 0, 0, []) := rfl
theorem kc96_5 : zt_code 96 5 = some (.iload_n 1, 6, 0, 0, []) := rfl
theorem kc96_6 : zt_code 96 6 = some (.ifCond .ge 5, 9, 11, 0, []) := rfl
theorem kc96_9 : zt_code 96 9 = some (.iconst (-1), 10, 0, 0, []) := rfl
theorem kc96_10 : zt_code 96 10 = some (.ireturn, 11, 0, 0, []) := rfl
theorem kc96_11 : zt_code 96 11 = some (.aload_n 0, 12, 0, 0, []) := rfl
theorem kc96_12 : zt_code 96 12 = some (.iconst 0, 13, 0, 0, []) := rfl
theorem kc96_13 : zt_code 96 13 = some (.iload_n 1, 14, 0, 0, []) := rfl
theorem kc96_14 : zt_code 96 14 = some (.iconst 0, 15, 0, 0, []) := rfl
theorem kc96_15 : zt_code 96 15 = some (.invokevirtual 115, 18, 90, 3, []) := rfl
theorem kc96_18 : zt_code 96 18 = some (.istore_n 2, 19, 0, 0, []) := rfl
theorem kc96_19 : zt_code 96 19 = some (.iload_n 2, 20, 0, 0, []) := rfl
theorem kc96_20 : zt_code 96 20 = some (.ifCond .ge 5, 23, 25, 0, []) := rfl
theorem kc96_23 : zt_code 96 23 = some (.iload_n 2, 24, 0, 0, []) := rfl
theorem kc96_24 : zt_code 96 24 = some (.ireturn, 25, 0, 0, []) := rfl
theorem kc96_25 : zt_code 96 25 = some (.aload_n 0, 26, 0, 0, []) := rfl
theorem kc96_26 : zt_code 96 26 = some (.getfield 93, 29, 8, 20, []) := rfl
theorem kc96_29 : zt_code 96 29 = some (.istore_n 3, 30, 0, 0, []) := rfl
theorem kc96_30 : zt_code 96 30 = some (.aload_n 0, 31, 0, 0, []) := rfl
theorem kc96_31 : zt_code 96 31 = some (.iload_n 1, 32, 0, 0, []) := rfl
theorem kc96_32 : zt_code 96 32 = some (.iconst 1, 33, 0, 0, []) := rfl
theorem kc96_33 : zt_code 96 33 = some (.iadd, 34, 0, 0, []) := rfl
theorem kc96_34 : zt_code 96 34 = some (.aload_n 0, 35, 0, 0, []) := rfl
theorem kc96_35 : zt_code 96 35 = some (.getfield 58, 38, 8, 3, []) := rfl
theorem kc96_38 : zt_code 96 38 = some (.iload_n 1, 39, 0, 0, []) := rfl
theorem kc96_39 : zt_code 96 39 = some (.isub, 40, 0, 0, []) := rfl
theorem kc96_40 : zt_code 96 40 = some (.iconst 1, 41, 0, 0, []) := rfl
theorem kc96_41 : zt_code 96 41 = some (.isub, 42, 0, 0, []) := rfl
theorem kc96_42 : zt_code 96 42 = some (.invokevirtual 133, 45, 92, 2, []) := rfl
theorem kc96_45 : zt_code 96 45 = some (.istore_n 2, 46, 0, 0, []) := rfl
theorem kc96_46 : zt_code 96 46 = some (.iload_n 2, 47, 0, 0, []) := rfl
theorem kc96_47 : zt_code 96 47 = some (.ifCond .ge 5, 50, 52, 0, []) := rfl
theorem kc96_50 : zt_code 96 50 = some (.iload_n 2, 51, 0, 0, []) := rfl
theorem kc96_51 : zt_code 96 51 = some (.ireturn, 52, 0, 0, []) := rfl
theorem kc96_52 : zt_code 96 52 = some (.iload_n 3, 53, 0, 0, []) := rfl
theorem kc96_53 : zt_code 96 53 = some (.ifCond .ne 6, 56, 59, 0, []) := rfl
theorem kc96_56 : zt_code 96 56 = some (.bipush (-2), 58, 0, 0, []) := rfl
theorem kc96_58 : zt_code 96 58 = some (.ireturn, 59, 0, 0, []) := rfl
theorem kc96_59 : zt_code 96 59 = some (.aload_n 0, 60, 0, 0, []) := rfl
theorem kc96_60 : zt_code 96 60 = some (.getfield 20, 63, 8, 5, []) := rfl
theorem kc96_63 : zt_code 96 63 = some (.iload_n 3, 64, 0, 0, []) := rfl
theorem kc96_64 : zt_code 96 64 = some (.iaload, 65, 0, 0, []) := rfl
theorem kc96_65 : zt_code 96 65 = some (.iconst 2, 66, 0, 0, []) := rfl
theorem kc96_66 : zt_code 96 66 = some (.if_icmp .ne 6, 69, 72, 0, []) := rfl
theorem kc96_69 : zt_code 96 69 = some (.bipush (-5), 71, 0, 0, []) := rfl
theorem kc96_71 : zt_code 96 71 = some (.ireturn, 72, 0, 0, []) := rfl
theorem kc96_72 : zt_code 96 72 = some (.aload_n 0, 73, 0, 0, []) := rfl
theorem kc96_73 : zt_code 96 73 = some (.getfield 93, 76, 8, 20, []) := rfl
theorem kc96_76 : zt_code 96 76 = some (.ifCond .le 6, 79, 82, 0, []) := rfl
theorem kc96_79 : zt_code 96 79 = some (.bipush (-3), 81, 0, 0, []) := rfl
theorem kc96_81 : zt_code 96 81 = some (.ireturn, 82, 0, 0, []) := rfl
theorem kc96_82 : zt_code 96 82 = some (.aload_n 0, 83, 0, 0, []) := rfl
theorem kc96_83 : zt_code 96 83 = some (.getfield 68, 86, 8, 10, []) := rfl
theorem kc96_86 : zt_code 96 86 = some (.bipush 60, 88, 0, 0, []) := rfl
theorem kc96_88 : zt_code 96 88 = some (.if_icmp .eq 33, 91, 121, 0, []) := rfl
theorem kc96_91 : zt_code 96 91 = some (.aload_n 0, 92, 0, 0, []) := rfl
theorem kc96_92 : zt_code 96 92 = some (.invokevirtual 119, 95, 79, 0, []) := rfl
theorem kc96_95 : zt_code 96 95 = some (.aload_n 0, 96, 0, 0, []) := rfl
theorem kc96_96 : zt_code 96 96 = some (.aload_n 0, 97, 0, 0, []) := rfl
theorem kc96_97 : zt_code 96 97 = some (.getfield 75, 100, 8, 17, []) := rfl
theorem kc96_100 : zt_code 96 100 = some (.aload_n 0, 101, 0, 0, []) := rfl
theorem kc96_101 : zt_code 96 101 = some (.aload_n 0, 102, 0, 0, []) := rfl
theorem kc96_102 : zt_code 96 102 = some (.getfield 75, 105, 8, 17, []) := rfl
theorem kc96_105 : zt_code 96 105 = some (.invokevirtual 84, 108, 82, 1, []) := rfl
theorem kc96_108 : zt_code 96 108 = some (.iconst 1, 109, 0, 0, []) := rfl
theorem kc96_109 : zt_code 96 109 = some (.iadd, 110, 0, 0, []) := rfl
theorem kc96_110 : zt_code 96 110 = some (.invokevirtual 123, 113, 86, 2, []) := rfl
theorem kc96_113 : zt_code 96 113 = some (.iadd, 114, 0, 0, []) := rfl
theorem kc96_114 : zt_code 96 114 = some (.aload_n 0, 115, 0, 0, []) := rfl
theorem kc96_115 : zt_code 96 115 = some (.getfield 7, 118, 8, 0, []) := rfl
theorem kc96_118 : zt_code 96 118 = some (.if_icmp .le 6, 121, 124, 0, []) := rfl
theorem kc96_121 : zt_code 96 121 = some (.bipush (-7), 123, 0, 0, []) := rfl
theorem kc96_123 : zt_code 96 123 = some (.ireturn, 124, 0, 0, []) := rfl
theorem kc96_124 : zt_code 96 124 = some (.aload_n 0, 125, 0, 0, []) := rfl
theorem kc96_125 : zt_code 96 125 = some (.iload_n 3, 126, 0, 0, []) := rfl
theorem kc96_126 : zt_code 96 126 = some (.invokevirtual 127, 129, 87, 1, []) := rfl
theorem kc96_129 : zt_code 96 129 = some (.iload_n 3, 130, 0, 0, []) := rfl
theorem kc96_130 : zt_code 96 130 = some (.ireturn, 131, 0, 0, []) := rfl
theorem kc97_0 : zt_code 97 0 = some (.aload_n 0, 1, 0, 0, []) := rfl
theorem kc97_1 : zt_code 97 1 = some (.invokevirtual 130, 4, 76, 0, []) := rfl
theorem kc97_4 : zt_code 97 4 = some (.istore_n 1, 5, 0, 0, []) := rfl
theorem kc97_5 : zt_code 97 5 = some (.aload_n 0, 6, 0, 0, []) := rfl
theorem kc97_6 : zt_code 97 6 = some (.getfield 58, 9, 8, 3, []) := rfl
theorem kc97_9 : zt_code 97 9 = some (.iload_n 1, 10, 0, 0, []) := rfl
theorem kc97_10 : zt_code 97 10 = some (.isub, 11, 0, 0, []) := rfl
theorem kc97_11 : zt_code 97 11 = some (.iconst 1, 12, 0, 0, []) := rfl
theorem kc97_12 : zt_code 97 12 = some (.isub, 13, 0, 0, []) := rfl
theorem kc97_13 : zt_code 97 13 = some (.istore_n 2, 14, 0, 0, []) := rfl
theorem kc97_14 : zt_code 97 14 = some (.iload_n 1, 15, 0, 0, []) := rfl
theorem kc97_15 : zt_code 97 15 = some (.ifCond .lt 15, 18, 30, 0, []) := rfl
theorem kc97_18 : zt_code 97 18 = some (.iload_n 2, 19, 0, 0, []) := rfl
theorem kc97_19 : zt_code 97 19 = some (.iconst 1, 20, 0, 0, []) := rfl
theorem kc97_20 : zt_code 97 20 = some (.if_icmp .lt 10, 23, 30, 0, []) := rfl
theorem kc97_23 : zt_code 97 23 = some (.iload_n 2, 24, 0, 0, []) := rfl
theorem kc97_24 : zt_code 97 24 = some (.sipush 1000, 27, 0, 0, []) := rfl
theorem kc97_27 : zt_code 97 27 = some (.if_icmp .le 5, 30, 32, 0, []) := rfl
theorem kc97_30 : zt_code 97 30 = some (.iconst (-1), 31, 0, 0, []) := rfl
theorem kc97_31 : zt_code 97 31 = some (.ireturn, 32, 0, 0, []) := rfl
theorem kc97_32 : zt_code 97 32 = some (.aload_n 0, 33, 0, 0, []) := rfl
theorem kc97_33 : zt_code 97 33 = some (.iconst 0, 34, 0, 0, []) := rfl
theorem kc97_34 : zt_code 97 34 = some (.iload_n 1, 35, 0, 0, []) := rfl
theorem kc97_35 : zt_code 97 35 = some (.invokevirtual 133, 38, 92, 2, []) := rfl
theorem kc97_38 : zt_code 97 38 = some (.istore_n 3, 39, 0, 0, []) := rfl
theorem kc97_39 : zt_code 97 39 = some (.iload_n 3, 40, 0, 0, []) := rfl
theorem kc97_40 : zt_code 97 40 = some (.ifCond .ge 5, 43, 45, 0, []) := rfl
theorem kc97_43 : zt_code 97 43 = some (.iload_n 3, 44, 0, 0, []) := rfl
theorem kc97_44 : zt_code 97 44 = some (.ireturn, 45, 0, 0, []) := rfl
theorem kc97_45 : zt_code 97 45 = some (.aload_n 0, 46, 0, 0, []) := rfl
theorem kc97_46 : zt_code 97 46 = some (.getfield 93, 49, 8, 20, []) := rfl
theorem kc97_49 : zt_code 97 49 = some (.ifCond .le 6, 52, 55, 0, []) := rfl
theorem kc97_52 : zt_code 97 52 = some (.bipush (-3), 54, 0, 0, []) := rfl
theorem kc97_54 : zt_code 97 54 = some (.ireturn, 55, 0, 0, []) := rfl
theorem kc97_55 : zt_code 97 55 = some (.aload_n 0, 56, 0, 0, []) := rfl
theorem kc97_56 : zt_code 97 56 = some (.iconst 3, 57, 0, 0, []) := rfl
theorem kc97_57 : zt_code 97 57 = some (.iload_n 2, 58, 0, 0, []) := rfl
theorem kc97_58 : zt_code 97 58 = some (.bipush 59, 60, 0, 0, []) := rfl
theorem kc97_60 : zt_code 97 60 = some (.if_icmp .le 7, 63, 67, 0, []) := rfl
theorem kc97_63 : zt_code 97 63 = some (.iconst 1, 64, 0, 0, []) := rfl
theorem kc97_64 : zt_code 97 64 = some (.goto 4, 67, 68, 0, []) := rfl
theorem kc97_67 : zt_code 97 67 = some (.iconst 0, 68, 0, 0, []) := rfl
theorem kc97_68 : zt_code 97 68 = some (.invokevirtual 136, 71, 94, 2, []) := rfl
theorem kc97_71 : zt_code 97 71 = some (.istore 4, 73, 0, 0, []) := rfl
theorem kc97_73 : zt_code 97 73 = some (.iload 4, 75, 0, 0, []) := rfl
theorem kc97_75 : zt_code 97 75 = some (.ifCond .ge 6, 78, 81, 0, []) := rfl
theorem kc97_78 : zt_code 97 78 = some (.iload 4, 80, 0, 0, []) := rfl
theorem kc97_80 : zt_code 97 80 = some (.ireturn, 81, 0, 0, []) := rfl
theorem kc97_81 : zt_code 97 81 = some (.aload_n 0, 82, 0, 0, []) := rfl
theorem kc97_82 : zt_code 97 82 = some (.getfield 29, 85, 8, 8, []) := rfl
theorem kc97_85 : zt_code 97 85 = some (.iload 4, 87, 0, 0, []) := rfl
theorem kc97_87 : zt_code 97 87 = some (.iload_n 2, 88, 0, 0, []) := rfl
theorem kc97_88 : zt_code 97 88 = some (.iastore, 89, 0, 0, []) := rfl
theorem kc97_89 : zt_code 97 89 = some (.iconst 0, 90, 0, 0, []) := rfl
theorem kc97_90 : zt_code 97 90 = some (.istore 5, 92, 0, 0, []) := rfl
theorem kc97_92 : zt_code 97 92 = some (.iload 5, 94, 0, 0, []) := rfl
theorem kc97_94 : zt_code 97 94 = some (.iload_n 2, 95, 0, 0, []) := rfl
theorem kc97_95 : zt_code 97 95 = some (.if_icmp .ge 35, 98, 130, 0, []) := rfl
theorem kc97_98 : zt_code 97 98 = some (.aload_n 0, 99, 0, 0, []) := rfl
theorem kc97_99 : zt_code 97 99 = some (.getfield 33, 102, 8, 9, []) := rfl
theorem kc97_102 : zt_code 97 102 = some (.sipush 1000, 105, 0, 0, []) := rfl
theorem kc97_105 : zt_code 97 105 = some (.iload 4, 107, 0, 0, []) := rfl
theorem kc97_107 : zt_code 97 107 = some (.imul, 108, 0, 0, []) := rfl
theorem kc97_108 : zt_code 97 108 = some (.iload 5, 110, 0, 0, []) := rfl
theorem kc97_110 : zt_code 97 110 = some (.iadd, 111, 0, 0, []) := rfl
theorem kc97_111 : zt_code 97 111 = some (.aload_n 0, 112, 0, 0, []) := rfl
theorem kc97_112 : zt_code 97 112 = some (.getfield 17, 115, 8, 4, []) := rfl
theorem kc97_115 : zt_code 97 115 = some (.iload_n 1, 116, 0, 0, []) := rfl
theorem kc97_116 : zt_code 97 116 = some (.iconst 1, 117, 0, 0, []) := rfl
theorem kc97_117 : zt_code 97 117 = some (.iadd, 118, 0, 0, []) := rfl
theorem kc97_118 : zt_code 97 118 = some (.iload 5, 120, 0, 0, []) := rfl
theorem kc97_120 : zt_code 97 120 = some (.iadd, 121, 0, 0, []) := rfl
theorem kc97_121 : zt_code 97 121 = some (.iaload, 122, 0, 0, []) := rfl
theorem kc97_122 : zt_code 97 122 = some (.i2b, 123, 0, 0, []) := rfl
theorem kc97_123 : zt_code 97 123 = some (.bastore, 124, 0, 0, []) := rfl
theorem kc97_124 : zt_code 97 124 = some (.iinc 5 1, 127, 0, 0, []) := rfl
theorem kc97_127 : zt_code 97 127 = some (.goto (-35), 130, 92, 0, []) := rfl
theorem kc97_130 : zt_code 97 130 = some (.iload 4, 132, 0, 0, []) := rfl
theorem kc97_132 : zt_code 97 132 = some (.ireturn, 133, 0, 0, []) := rfl
theorem kc98_0 : zt_code 98 0 = some (.aload_n 0, 1, 0, 0, []) := rfl
theorem kc98_1 : zt_code 98 1 = some (.invokevirtual 130, 4, 76, 0, []) := rfl
theorem kc98_4 : zt_code 98 4 = some (.istore_n 1, 5, 0, 0, []) := rfl
theorem kc98_5 : zt_code 98 5 = some (.iload_n 1, 6, 0, 0, []) := rfl
theorem kc98_6 : zt_code 98 6 = some (.iconst (-1), 7, 0, 0, []) := rfl
theorem kc98_7 : zt_code 98 7 = some (.if_icmp .eq 5, 10, 12, 0, []) := rfl
theorem kc98_10 : zt_code 98 10 = some (.iconst (-1), 11, 0, 0, []) := rfl
theorem kc98_11 : zt_code 98 11 = some (.ireturn, 12, 0, 0, []) := rfl
theorem kc98_12 : zt_code 98 12 = some (.aload_n 0, 13, 0, 0, []) := rfl
theorem kc98_13 : zt_code 98 13 = some (.iconst 0, 14, 0, 0, []) := rfl
theorem kc98_14 : zt_code 98 14 = some (.aload_n 0, 15, 0, 0, []) := rfl
theorem kc98_15 : zt_code 98 15 = some (.getfield 58, 18, 8, 3, []) := rfl
theorem kc98_18 : zt_code 98 18 = some (.invokevirtual 133, 21, 92, 2, []) := rfl
theorem kc98_21 : zt_code 98 21 = some (.istore_n 2, 22, 0, 0, []) := rfl
theorem kc98_22 : zt_code 98 22 = some (.iload_n 2, 23, 0, 0, []) := rfl
theorem kc98_23 : zt_code 98 23 = some (.ifCond .ge 5, 26, 28, 0, []) := rfl
theorem kc98_26 : zt_code 98 26 = some (.iload_n 2, 27, 0, 0, []) := rfl
theorem kc98_27 : zt_code 98 27 = some (.ireturn, 28, 0, 0, []) := rfl
theorem kc98_28 : zt_code 98 28 = some (.aload_n 0, 29, 0, 0, []) := rfl
theorem kc98_29 : zt_code 98 29 = some (.getfield 93, 32, 8, 20, []) := rfl
theorem kc98_32 : zt_code 98 32 = some (.ifCond .ne 6, 35, 38, 0, []) := rfl
theorem kc98_35 : zt_code 98 35 = some (.bipush (-2), 37, 0, 0, []) := rfl
theorem kc98_37 : zt_code 98 37 = some (.ireturn, 38, 0, 0, []) := rfl
theorem kc98_38 : zt_code 98 38 = some (.aload_n 0, 39, 0, 0, []) := rfl
theorem kc98_39 : zt_code 98 39 = some (.getfield 20, 42, 8, 5, []) := rfl
theorem kc98_42 : zt_code 98 42 = some (.aload_n 0, 43, 0, 0, []) := rfl
theorem kc98_43 : zt_code 98 43 = some (.getfield 93, 46, 8, 20, []) := rfl
theorem kc98_46 : zt_code 98 46 = some (.iaload, 47, 0, 0, []) := rfl
theorem kc98_47 : zt_code 98 47 = some (.iconst 2, 48, 0, 0, []) := rfl
theorem kc98_48 : zt_code 98 48 = some (.if_icmp .ne 6, 51, 54, 0, []) := rfl
theorem kc98_51 : zt_code 98 51 = some (.bipush (-5), 53, 0, 0, []) := rfl
theorem kc98_53 : zt_code 98 53 = some (.ireturn, 54, 0, 0, []) := rfl
theorem kc98_54 : zt_code 98 54 = some (.aload_n 0, 55, 0, 0, []) := rfl
theorem kc98_55 : zt_code 98 55 = some (.aload_n 0, 56, 0, 0, []) := rfl
theorem kc98_56 : zt_code 98 56 = some (.aload_n 0, 57, 0, 0, []) := rfl
theorem kc98_57 : zt_code 98 57 = some (.getfield 75, 60, 8, 17, []) := rfl
theorem kc98_60 : zt_code 98 60 = some (.aload_n 0, 61, 0, 0, []) := rfl
theorem kc98_61 : zt_code 98 61 = some (.getfield 81, 64, 8, 18, []) := rfl
theorem kc98_64 : zt_code 98 64 = some (.aload_n 0, 65, 0, 0, []) := rfl
theorem kc98_65 : zt_code 98 65 = some (.getfield 78, 68, 8, 19, []) := rfl
theorem kc98_68 : zt_code 98 68 = some (.invokevirtual 107, 71, 85, 3, []) := rfl
theorem kc98_71 : zt_code 98 71 = some (.invokevirtual 139, 74, 88, 1, []) := rfl
theorem kc98_74 : zt_code 98 74 = some (.aload_n 0, 75, 0, 0, []) := rfl
theorem kc98_75 : zt_code 98 75 = some (.getfield 93, 78, 8, 20, []) := rfl
theorem kc98_78 : zt_code 98 78 = some (.ireturn, 79, 0, 0, []) := rfl
theorem kc99_0 : zt_code 99 0 = some (.aload_n 0, 1, 0, 0, []) := rfl
theorem kc99_1 : zt_code 99 1 = some (.invokevirtual 130, 4, 76, 0, []) := rfl
theorem kc99_4 : zt_code 99 4 = some (.istore_n 1, 5, 0, 0, []) := rfl
theorem kc99_5 : zt_code 99 5 = some (.iload_n 1, 6, 0, 0, []) := rfl
theorem kc99_6 : zt_code 99 6 = some (.iconst (-1), 7, 0, 0, []) := rfl
theorem kc99_7 : zt_code 99 7 = some (.if_icmp .eq 5, 10, 12, 0, []) := rfl
theorem kc99_10 : zt_code 99 10 = some (.iconst (-1), 11, 0, 0, []) := rfl
theorem kc99_11 : zt_code 99 11 = some (.ireturn, 12, 0, 0, []) := rfl
theorem kc99_12 : zt_code 99 12 = some (.aload_n 0, 13, 0, 0, []) := rfl
theorem kc99_13 : zt_code 99 13 = some (.iconst 0, 14, 0, 0, []) := rfl
theorem kc99_14 : zt_code 99 14 = some (.aload_n 0, 15, 0, 0, []) := rfl
theorem kc99_15 : zt_code 99 15 = some (.getfield 58, 18, 8, 3, []) := rfl
theorem kc99_18 : zt_code 99 18 = some (.invokevirtual 133, 21, 92, 2, []) := rfl
theorem kc99_21 : zt_code 99 21 = some (.istore_n 2, 22, 0, 0, []) := rfl
theorem kc99_22 : zt_code 99 22 = some (.iload_n 2, 23, 0, 0, []) := rfl
theorem kc99_23 : zt_code 99 23 = some (.ifCond .ge 5, 26, 28, 0, []) := rfl
theorem kc99_26 : zt_code 99 26 = some (.iload_n 2, 27, 0, 0, []) := rfl
theorem kc99_27 : zt_code 99 27 = some (.ireturn, 28, 0, 0, []) := rfl
theorem kc99_28 : zt_code 99 28 = some (.aload_n 0, 29, 0, 0, []) := rfl
theorem kc99_29 : zt_code 99 29 = some (.getfield 93, 32, 8, 20, []) := rfl
theorem kc99_32 : zt_code 99 32 = some (.ifCond .ne 6, 35, 38, 0, []) := rfl
theorem kc99_35 : zt_code 99 35 = some (.bipush (-2), 37, 0, 0, []) := rfl
theorem kc99_37 : zt_code 99 37 = some (.ireturn, 38, 0, 0, []) := rfl
theorem kc99_38 : zt_code 99 38 = some (.aload_n 0, 39, 0, 0, []) := rfl
theorem kc99_39 : zt_code 99 39 = some (.getfield 20, 42, 8, 5, []) := rfl
theorem kc99_42 : zt_code 99 42 = some (.aload_n 0, 43, 0, 0, []) := rfl
theorem kc99_43 : zt_code 99 43 = some (.getfield 93, 46, 8, 20, []) := rfl
theorem kc99_46 : zt_code 99 46 = some (.iaload, 47, 0, 0, []) := rfl
theorem kc99_47 : zt_code 99 47 = some (.iconst 2, 48, 0, 0, []) := rfl
theorem kc99_48 : zt_code 99 48 = some (.if_icmp .eq 6, 51, 54, 0, []) := rfl
theorem kc99_51 : zt_code 99 51 = some (.bipush (-4), 53, 0, 0, []) := rfl
theorem kc99_53 : zt_code 99 53 = some (.ireturn, 54, 0, 0, []) := rfl
theorem kc99_54 : zt_code 99 54 = some (.aload_n 0, 55, 0, 0, []) := rfl
theorem kc99_55 : zt_code 99 55 = some (.aload_n 0, 56, 0, 0, []) := rfl
theorem kc99_56 : zt_code 99 56 = some (.getfield 93, 59, 8, 20, []) := rfl
theorem kc99_59 : zt_code 99 59 = some (.invokevirtual 84, 62, 82, 1, []) := rfl
theorem kc99_62 : zt_code 99 62 = some (.ifCond .le 6, 65, 68, 0, []) := rfl
theorem kc99_65 : zt_code 99 65 = some (.bipush (-6), 67, 0, 0, []) := rfl
theorem kc99_67 : zt_code 99 67 = some (.ireturn, 68, 0, 0, []) := rfl
theorem kc99_68 : zt_code 99 68 = some (.aload_n 0, 69, 0, 0, []) := rfl
theorem kc99_69 : zt_code 99 69 = some (.aload_n 0, 70, 0, 0, []) := rfl
theorem kc99_70 : zt_code 99 70 = some (.aload_n 0, 71, 0, 0, []) := rfl
theorem kc99_71 : zt_code 99 71 = some (.getfield 75, 74, 8, 17, []) := rfl
theorem kc99_74 : zt_code 99 74 = some (.aload_n 0, 75, 0, 0, []) := rfl
theorem kc99_75 : zt_code 99 75 = some (.getfield 81, 78, 8, 18, []) := rfl
theorem kc99_78 : zt_code 99 78 = some (.aload_n 0, 79, 0, 0, []) := rfl
theorem kc99_79 : zt_code 99 79 = some (.getfield 78, 82, 8, 19, []) := rfl
theorem kc99_82 : zt_code 99 82 = some (.invokevirtual 107, 85, 85, 3, []) := rfl
theorem kc99_85 : zt_code 99 85 = some (.invokevirtual 139, 88, 88, 1, []) := rfl
theorem kc99_88 : zt_code 99 88 = some (.aload_n 0, 89, 0, 0, []) := rfl
theorem kc99_89 : zt_code 99 89 = some (.getfield 93, 92, 8, 20, []) := rfl
theorem kc99_92 : zt_code 99 92 = some (.ireturn, 93, 0, 0, []) := rfl
theorem kc100_0 : zt_code 100 0 = some (.iload_n 1, 1, 0, 0, []) := rfl
theorem kc100_1 : zt_code 100 1 = some (.istore_n 3, 2, 0, 0, []) := rfl
theorem kc100_2 : zt_code 100 2 = some (.iload_n 3, 3, 0, 0, []) := rfl
theorem kc100_3 : zt_code 100 3 = some (.iload_n 2, 4, 0, 0, []) := rfl
theorem kc100_4 : zt_code 100 4 = some (.if_icmp .eq 17, 7, 21, 0, []) := rfl
theorem kc100_7 : zt_code 100 7 = some (.iload_n 3, 8, 0, 0, []) := rfl
theorem kc100_8 : zt_code 100 8 = some (.iconst 1, 9, 0, 0, []) := rfl
theorem kc100_9 : zt_code 100 9 = some (.if_icmp .eq 12, 12, 21, 0, []) := rfl
theorem kc100_12 : zt_code 100 12 = some (.aload_n 0, 13, 0, 0, []) := rfl
theorem kc100_13 : zt_code 100 13 = some (.iload_n 3, 14, 0, 0, []) := rfl
theorem kc100_14 : zt_code 100 14 = some (.invokevirtual 104, 17, 83, 1, []) := rfl
theorem kc100_17 : zt_code 100 17 = some (.istore_n 3, 18, 0, 0, []) := rfl
theorem kc100_18 : zt_code 100 18 = some (.goto (-16), 21, 2, 0, []) := rfl
theorem kc100_21 : zt_code 100 21 = some (.iload_n 3, 22, 0, 0, []) := rfl
theorem kc100_22 : zt_code 100 22 = some (.iload_n 2, 23, 0, 0, []) := rfl
theorem kc100_23 : zt_code 100 23 = some (.if_icmp .ne 7, 26, 30, 0, []) := rfl
theorem kc100_26 : zt_code 100 26 = some (.iconst 1, 27, 0, 0, []) := rfl
theorem kc100_27 : zt_code 100 27 = some (.goto 4, 30, 31, 0, []) := rfl
theorem kc100_30 : zt_code 100 30 = some (.iconst 0, 31, 0, 0, []) := rfl
theorem kc100_31 : zt_code 100 31 = some (.ireturn, 32, 0, 0, []) := rfl
theorem kc101_0 : zt_code 101 0 = some (.aload_n 0, 1, 0, 0, []) := rfl
theorem kc101_1 : zt_code 101 1 = some (.invokevirtual 130, 4, 76, 0, []) := rfl
theorem kc101_4 : zt_code 101 4 = some (.istore_n 1, 5, 0, 0, []) := rfl
theorem kc101_5 : zt_code 101 5 = some (.iload_n 1, 6, 0, 0, []) := rfl
theorem kc101_6 : zt_code 101 6 = some (.ifCond .ge 5, 9, 11, 0, []) := rfl
theorem kc101_9 : zt_code 101 9 = some (.iconst (-1), 10, 0, 0, []) := rfl
theorem kc101_10 : zt_code 101 10 = some (.ireturn, 11, 0, 0, []) := rfl
theorem kc101_11 : zt_code 101 11 = some (.aload_n 0, 12, 0, 0, []) := rfl
theorem kc101_12 : zt_code 101 12 = some (.iconst 0, 13, 0, 0, []) := rfl
theorem kc101_13 : zt_code 101 13 = some (.iload_n 1, 14, 0, 0, []) := rfl
theorem kc101_14 : zt_code 101 14 = some (.invokevirtual 133, 17, 92, 2, []) := rfl
theorem kc101_17 : zt_code 101 17 = some (.istore_n 2, 18, 0, 0, []) := rfl
theorem kc101_18 : zt_code 101 18 = some (.iload_n 2, 19, 0, 0, []) := rfl
theorem kc101_19 : zt_code 101 19 = some (.ifCond .ge 5, 22, 24, 0, []) := rfl
theorem kc101_22 : zt_code 101 22 = some (.iload_n 2, 23, 0, 0, []) := rfl
theorem kc101_23 : zt_code 101 23 = some (.ireturn, 24, 0, 0, []) := rfl
theorem kc101_24 : zt_code 101 24 = some (.aload_n 0, 25, 0, 0, []) := rfl
theorem kc101_25 : zt_code 101 25 = some (.getfield 93, 28, 8, 20, []) := rfl
theorem kc101_28 : zt_code 101 28 = some (.istore_n 3, 29, 0, 0, []) := rfl
theorem kc101_29 : zt_code 101 29 = some (.iload_n 3, 30, 0, 0, []) := rfl
theorem kc101_30 : zt_code 101 30 = some (.ifCond .ne 7, 33, 37, 0, []) := rfl
theorem kc101_33 : zt_code 101 33 = some (.iconst (-1), 34, 0, 0, []) := rfl
theorem kc101_34 : zt_code 101 34 = some (.goto 19, 37, 53, 0, []) := rfl
theorem kc101_37 : zt_code 101 37 = some (.aload_n 0, 38, 0, 0, []) := rfl
theorem kc101_38 : zt_code 101 38 = some (.aload_n 0, 39, 0, 0, []) := rfl
theorem kc101_39 : zt_code 101 39 = some (.getfield 75, 42, 8, 17, []) := rfl
theorem kc101_42 : zt_code 101 42 = some (.aload_n 0, 43, 0, 0, []) := rfl
theorem kc101_43 : zt_code 101 43 = some (.getfield 81, 46, 8, 18, []) := rfl
theorem kc101_46 : zt_code 101 46 = some (.aload_n 0, 47, 0, 0, []) := rfl
theorem kc101_47 : zt_code 101 47 = some (.getfield 78, 50, 8, 19, []) := rfl
theorem kc101_50 : zt_code 101 50 = some (.invokevirtual 107, 53, 85, 3, []) := rfl
theorem kc101_53 : zt_code 101 53 = some (.istore 4, 55, 0, 0, []) := rfl
theorem kc101_55 : zt_code 101 55 = some (.aload_n 0, 56, 0, 0, []) := rfl
theorem kc101_56 : zt_code 101 56 = some (.iload_n 1, 57, 0, 0, []) := rfl
theorem kc101_57 : zt_code 101 57 = some (.iconst 1, 58, 0, 0, []) := rfl
theorem kc101_58 : zt_code 101 58 = some (.iadd, 59, 0, 0, []) := rfl
theorem kc101_59 : zt_code 101 59 = some (.aload_n 0, 60, 0, 0, []) := rfl
theorem kc101_60 : zt_code 101 60 = some (.getfield 58, 63, 8, 3, []) := rfl
theorem kc101_63 : zt_code 101 63 = some (.iload_n 1, 64, 0, 0, []) := rfl
theorem kc101_64 : zt_code 101 64 = some (.isub, 65, 0, 0, []) := rfl
theorem kc101_65 : zt_code 101 65 = some (.iconst 1, 66, 0, 0, []) := rfl
theorem kc101_66 : zt_code 101 66 = some (.isub, 67, 0, 0, []) := rfl
theorem kc101_67 : zt_code 101 67 = some (.invokevirtual 133, 70, 92, 2, []) := rfl
theorem kc101_70 : zt_code 101 70 = some (.istore_n 2, 71, 0, 0, []) := rfl
theorem kc101_71 : zt_code 101 71 = some (.iload_n 2, 72, 0, 0, []) := rfl
theorem kc101_72 : zt_code 101 72 = some (.ifCond .ge 5, 75, 77, 0, []) := rfl
theorem kc101_75 : zt_code 101 75 = some (.iload_n 2, 76, 0, 0, []) := rfl
theorem kc101_76 : zt_code 101 76 = some (.ireturn, 77, 0, 0, []) := rfl
theorem kc101_77 : zt_code 101 77 = some (.iload_n 3, 78, 0, 0, []) := rfl
theorem kc101_78 : zt_code 101 78 = some (.ifCond .ne 6, 81, 84, 0, []) := rfl
theorem kc101_81 : zt_code 101 81 = some (.bipush (-2), 83, 0, 0, []) := rfl
theorem kc101_83 : zt_code 101 83 = some (.ireturn, 84, 0, 0, []) := rfl
theorem kc101_84 : zt_code 101 84 = some (.aload_n 0, 85, 0, 0, []) := rfl
theorem kc101_85 : zt_code 101 85 = some (.getfield 93, 88, 8, 20, []) := rfl
theorem kc101_88 : zt_code 101 88 = some (.iload_n 3, 89, 0, 0, []) := rfl
theorem kc101_89 : zt_code 101 89 = some (.if_icmp .ne 5, 92, 94, 0, []) := rfl
theorem kc101_92 : zt_code 101 92 = some (.iload_n 3, 93, 0, 0, []) := rfl
theorem kc101_93 : zt_code 101 93 = some (.ireturn, 94, 0, 0, []) := rfl
theorem kc101_94 : zt_code 101 94 = some (.aload_n 0, 95, 0, 0, []) := rfl
theorem kc101_95 : zt_code 101 95 = some (.getfield 20, 98, 8, 5, []) := rfl
theorem kc101_98 : zt_code 101 98 = some (.iload_n 3, 99, 0, 0, []) := rfl
theorem kc101_99 : zt_code 101 99 = some (.iaload, 100, 0, 0, []) := rfl
theorem kc101_100 : zt_code 101 100 = some (.iconst 2, 101, 0, 0, []) := rfl
theorem kc101_101 : zt_code 101 101 = some (.if_icmp .ne 7, 104, 108, 0, []) := rfl
theorem kc101_104 : zt_code 101 104 = some (.iconst 1, 105, 0, 0, []) := rfl
theorem kc101_105 : zt_code 101 105 = some (.goto 4, 108, 109, 0, []) := rfl
theorem kc101_108 : zt_code 101 108 = some (.iconst 0, 109, 0, 0, []) := rfl
theorem kc101_109 : zt_code 101 109 = some (.istore 5, 111, 0, 0, []) := rfl
theorem kc101_111 : zt_code 101 111 = some (.iload 5, 113, 0, 0, []) := rfl
theorem kc101_113 : zt_code 101 113 = some (.ifCond .eq 18, 116, 131, 0, []) := rfl
theorem kc101_116 : zt_code 101 116 = some (.aload_n 0, 117, 0, 0, []) := rfl
theorem kc101_117 : zt_code 101 117 = some (.aload_n 0, 118, 0, 0, []) := rfl
theorem kc101_118 : zt_code 101 118 = some (.getfield 75, 121, 8, 17, []) := rfl
theorem kc101_121 : zt_code 101 121 = some (.iload_n 3, 122, 0, 0, []) := rfl
theorem kc101_122 : zt_code 101 122 = some (.invokevirtual 142, 125, 100, 2, []) := rfl
theorem kc101_125 : zt_code 101 125 = some (.ifCond .eq 6, 128, 131, 0, []) := rfl
theorem kc101_128 : zt_code 101 128 = some (.bipush (-10), 130, 0, 0, []) := rfl
theorem kc101_130 : zt_code 101 130 = some (.ireturn, 131, 0, 0, []) := rfl
theorem kc101_131 : zt_code 101 131 = some (.aload_n 0, 132, 0, 0, []) := rfl
theorem kc101_132 : zt_code 101 132 = some (.getfield 93, 135, 8, 20, []) := rfl
theorem kc101_135 : zt_code 101 135 = some (.ifCond .le 20, 138, 155, 0, []) := rfl
set_option maxRecDepth 20000 in
theorem kc101_138 : zt_code 101 138 = some (.aload_n 0, 139, 0, 0, []) := rfl
set_option maxRecDepth 20000 in
theorem kc101_139 : zt_code 101 139 = some (.getfield 20, 142, 8, 5, []) := rfl
set_option maxRecDepth 20000 in
theorem kc101_142 : zt_code 101 142 = some (.aload_n 0, 143, 0, 0, []) := rfl
set_option maxRecDepth 20000 in
theorem kc101_143 : zt_code 101 143 = some (.getfield 93, 146, 8, 20, []) := rfl
set_option maxRecDepth 20000 in
theorem kc101_146 : zt_code 101 146 = some (.iaload, 147, 0, 0, []) := rfl
set_option maxRecDepth 20000 in
theorem kc101_147 : zt_code 101 147 = some (.iconst 2, 148, 0, 0, []) := rfl
set_option maxRecDepth 20000 in
theorem kc101_148 : zt_code 101 148 = some (.if_icmp .ne 7, 151, 155, 0, []) := rfl
set_option maxRecDepth 20000 in
theorem kc101_151 : zt_code 101 151 = some (.iconst 1, 152, 0, 0, []) := rfl
set_option maxRecDepth 20000 in
theorem kc101_152 : zt_code 101 152 = some (.goto 4, 155, 156, 0, []) := rfl
set_option maxRecDepth 20000 in
theorem kc101_155 : zt_code 101 155 = some (.iconst 0, 156, 0, 0, []) := rfl
set_option maxRecDepth 20000 in
theorem kc101_156 : zt_code 101 156 = some (.istore 6, 158, 0, 0, []) := rfl
set_option maxRecDepth 20000 in
theorem kc101_158 : zt_code 101 158 = some (.aload_n 0, 159, 0, 0, []) := rfl
set_option maxRecDepth 20000 in
theorem kc101_159 : zt_code 101 159 = some (.getfield 93, 162, 8, 20, []) := rfl
set_option maxRecDepth 20000 in
theorem kc101_162 : zt_code 101 162 = some (.ifCond .le 16, 165, 178, 0, []) := rfl
set_option maxRecDepth 20000 in
theorem kc101_165 : zt_code 101 165 = some (.iload 5, 167, 0, 0, []) := rfl
set_option maxRecDepth 20000 in
theorem kc101_167 : zt_code 101 167 = some (.ifCond .eq 11, 170, 178, 0, []) := rfl
set_option maxRecDepth 20000 in
theorem kc101_170 : zt_code 101 170 = some (.iload 6, 172, 0, 0, []) := rfl
set_option maxRecDepth 20000 in
theorem kc101_172 : zt_code 101 172 = some (.ifCond .ne 6, 175, 178, 0, []) := rfl
set_option maxRecDepth 20000 in
theorem kc101_175 : zt_code 101 175 = some (.bipush (-4), 177, 0, 0, []) := rfl
set_option maxRecDepth 20000 in
theorem kc101_177 : zt_code 101 177 = some (.ireturn, 178, 0, 0, []) := rfl
set_option maxRecDepth 20000 in
theorem kc101_178 : zt_code 101 178 = some (.iload 6, 180, 0, 0, []) := rfl
set_option maxRecDepth 20000 in
theorem kc101_180 : zt_code 101 180 = some (.ifCond .eq 11, 183, 191, 0, []) := rfl
set_option maxRecDepth 20000 in
theorem kc101_183 : zt_code 101 183 = some (.iload 5, 185, 0, 0, []) := rfl
set_option maxRecDepth 20000 in
theorem kc101_185 : zt_code 101 185 = some (.ifCond .ne 6, 188, 191, 0, []) := rfl
set_option maxRecDepth 20000 in
theorem kc101_188 : zt_code 101 188 = some (.bipush (-5), 190, 0, 0, []) := rfl
set_option maxRecDepth 20000 in
theorem kc101_190 : zt_code 101 190 = some (.ireturn, 191, 0, 0, []) := rfl
set_option maxRecDepth 20000 in
theorem kc101_191 : zt_code 101 191 = some (.iload 6, 193, 0, 0, []) := rfl
set_option maxRecDepth 20000 in
theorem kc101_193 : zt_code 101 193 = some (.ifCond .eq 17, 196, 210, 0, []) := rfl
set_option maxRecDepth 20000 in
theorem kc101_196 : zt_code 101 196 = some (.aload_n 0, 197, 0, 0, []) := rfl
set_option maxRecDepth 20000 in
theorem kc101_197 : zt_code 101 197 = some (.aload_n 0, 198, 0, 0, []) := rfl
set_option maxRecDepth 20000 in
theorem kc101_198 : zt_code 101 198 = some (.getfield 93, 201, 8, 20, []) := rfl
set_option maxRecDepth 20000 in
theorem kc101_201 : zt_code 101 201 = some (.invokevirtual 84, 204, 82, 1, []) := rfl
set_option maxRecDepth 20000 in
theorem kc101_204 : zt_code 101 204 = some (.ifCond .le 6, 207, 210, 0, []) := rfl
set_option maxRecDepth 20000 in
theorem kc101_207 : zt_code 101 207 = some (.bipush (-6), 209, 0, 0, []) := rfl
set_option maxRecDepth 20000 in
theorem kc101_209 : zt_code 101 209 = some (.ireturn, 210, 0, 0, []) := rfl
set_option maxRecDepth 20000 in
theorem kc101_210 : zt_code 101 210 = some (.aload_n 0, 211, 0, 0, []) := rfl
set_option maxRecDepth 20000 in
theorem kc101_211 : zt_code 101 211 = some (.getfield 93, 214, 8, 20, []) := rfl
set_option maxRecDepth 20000 in
theorem kc101_214 : zt_code 101 214 = some (.ifCond .le 31, 217, 245, 0, []) := rfl
set_option maxRecDepth 20000 in
theorem kc101_217 : zt_code 101 217 = some (.aload_n 0, 218, 0, 0, []) := rfl
set_option maxRecDepth 20000 in
theorem kc101_218 : zt_code 101 218 = some (.aload_n 0, 219, 0, 0, []) := rfl
set_option maxRecDepth 20000 in
theorem kc101_219 : zt_code 101 219 = some (.getfield 93, 222, 8, 20, []) := rfl
set_option maxRecDepth 20000 in
theorem kc101_222 : zt_code 101 222 = some (.invokevirtual 87, 225, 81, 1, []) := rfl
set_option maxRecDepth 20000 in
theorem kc101_225 : zt_code 101 225 = some (.iconst 1, 226, 0, 0, []) := rfl
set_option maxRecDepth 20000 in
theorem kc101_226 : zt_code 101 226 = some (.if_icmp .ne 19, 229, 245, 0, []) := rfl
set_option maxRecDepth 20000 in
theorem kc101_229 : zt_code 101 229 = some (.aload_n 0, 230, 0, 0, []) := rfl
set_option maxRecDepth 20000 in
theorem kc101_230 : zt_code 101 230 = some (.getfield 26, 233, 8, 7, []) := rfl
set_option maxRecDepth 20000 in
theorem kc101_233 : zt_code 101 233 = some (.aload_n 0, 234, 0, 0, []) := rfl
set_option maxRecDepth 20000 in
theorem kc101_234 : zt_code 101 234 = some (.getfield 93, 237, 8, 20, []) := rfl
set_option maxRecDepth 20000 in
theorem kc101_237 : zt_code 101 237 = some (.iaload, 238, 0, 0, []) := rfl
set_option maxRecDepth 20000 in
theorem kc101_238 : zt_code 101 238 = some (.ifCond .ne 7, 241, 245, 0, []) := rfl
set_option maxRecDepth 20000 in
theorem kc101_241 : zt_code 101 241 = some (.iconst 1, 242, 0, 0, []) := rfl
set_option maxRecDepth 20000 in
theorem kc101_242 : zt_code 101 242 = some (.goto 4, 245, 246, 0, []) := rfl
set_option maxRecDepth 20000 in
theorem kc101_245 : zt_code 101 245 = some (.iconst 0, 246, 0, 0, []) := rfl
set_option maxRecDepth 20000 in
theorem kc101_246 : zt_code 101 246 = some (.istore 7, 248, 0, 0, []) := rfl
set_option maxRecDepth 20000 in
theorem kc101_248 : zt_code 101 248 = some (.aload_n 0, 249, 0, 0, []) := rfl
set_option maxRecDepth 20000 in
theorem kc101_249 : zt_code 101 249 = some (.aload_n 0, 250, 0, 0, []) := rfl
set_option maxRecDepth 20000 in
theorem kc101_250 : zt_code 101 250 = some (.getfield 75, 253, 8, 17, []) := rfl
set_option maxRecDepth 20000 in
theorem kc101_253 : zt_code 101 253 = some (.invokevirtual 84, 256, 82, 1, []) := rfl
set_option maxRecDepth 20000 in
theorem kc101_256 : zt_code 101 256 = some (.iconst 1, 257, 0, 0, []) := rfl
set_option maxRecDepth 20000 in
theorem kc101_257 : zt_code 101 257 = some (.iadd, 258, 0, 0, []) := rfl
set_option maxRecDepth 20000 in
theorem kc101_258 : zt_code 101 258 = some (.aload_n 0, 259, 0, 0, []) := rfl
set_option maxRecDepth 20000 in
theorem kc101_259 : zt_code 101 259 = some (.getfield 37, 262, 8, 11, []) := rfl
set_option maxRecDepth 20000 in
theorem kc101_262 : zt_code 101 262 = some (.iload 4, 264, 0, 0, []) := rfl
set_option maxRecDepth 20000 in
theorem kc101_264 : zt_code 101 264 = some (.iaload, 265, 0, 0, []) := rfl
set_option maxRecDepth 20000 in
theorem kc101_265 : zt_code 101 265 = some (.aload_n 0, 266, 0, 0, []) := rfl
set_option maxRecDepth 20000 in
theorem kc101_266 : zt_code 101 266 = some (.getfield 75, 269, 8, 17, []) := rfl
set_option maxRecDepth 20000 in
theorem kc101_269 : zt_code 101 269 = some (.if_icmp .ne 7, 272, 276, 0, []) := rfl
set_option maxRecDepth 20000 in
theorem kc101_272 : zt_code 101 272 = some (.iconst 1, 273, 0, 0, []) := rfl
set_option maxRecDepth 20000 in
theorem kc101_273 : zt_code 101 273 = some (.goto 4, 276, 277, 0, []) := rfl
set_option maxRecDepth 20000 in
theorem kc101_276 : zt_code 101 276 = some (.iconst 0, 277, 0, 0, []) := rfl
set_option maxRecDepth 20000 in
theorem kc101_277 : zt_code 101 277 = some (.isub, 278, 0, 0, []) := rfl
set_option maxRecDepth 20000 in
theorem kc101_278 : zt_code 101 278 = some (.aload_n 0, 279, 0, 0, []) := rfl
set_option maxRecDepth 20000 in
theorem kc101_279 : zt_code 101 279 = some (.getfield 93, 282, 8, 20, []) := rfl
set_option maxRecDepth 20000 in
theorem kc101_282 : zt_code 101 282 = some (.ifCond .le 7, 285, 289, 0, []) := rfl
set_option maxRecDepth 20000 in
theorem kc101_285 : zt_code 101 285 = some (.iconst 1, 286, 0, 0, []) := rfl
set_option maxRecDepth 20000 in
theorem kc101_286 : zt_code 101 286 = some (.goto 4, 289, 290, 0, []) := rfl
set_option maxRecDepth 20000 in
theorem kc101_289 : zt_code 101 289 = some (.iconst 0, 290, 0, 0, []) := rfl
set_option maxRecDepth 20000 in
theorem kc101_290 : zt_code 101 290 = some (.isub, 291, 0, 0, []) := rfl
set_option maxRecDepth 20000 in
theorem kc101_291 : zt_code 101 291 = some (.istore 8, 293, 0, 0, []) := rfl
set_option maxRecDepth 20000 in
theorem kc101_293 : zt_code 101 293 = some (.aload_n 0, 294, 0, 0, []) := rfl
set_option maxRecDepth 20000 in
theorem kc101_294 : zt_code 101 294 = some (.invokevirtual 119, 297, 79, 0, []) := rfl
set_option maxRecDepth 20000 in
theorem kc101_297 : zt_code 101 297 = some (.iload 7, 299, 0, 0, []) := rfl
set_option maxRecDepth 20000 in
theorem kc101_299 : zt_code 101 299 = some (.ifCond .eq 14, 302, 313, 0, []) := rfl
set_option maxRecDepth 20000 in
theorem kc101_302 : zt_code 101 302 = some (.aload_n 0, 303, 0, 0, []) := rfl
set_option maxRecDepth 20000 in
theorem kc101_303 : zt_code 101 303 = some (.aload_n 0, 304, 0, 0, []) := rfl
set_option maxRecDepth 20000 in
theorem kc101_304 : zt_code 101 304 = some (.getfield 93, 307, 8, 20, []) := rfl
set_option maxRecDepth 20000 in
theorem kc101_307 : zt_code 101 307 = some (.invokevirtual 65, 310, 78, 1, []) := rfl
set_option maxRecDepth 20000 in
theorem kc101_310 : zt_code 101 310 = some (.goto 4, 313, 314, 0, []) := rfl
set_option maxRecDepth 20000 in
theorem kc101_313 : zt_code 101 313 = some (.iconst 0, 314, 0, 0, []) := rfl
set_option maxRecDepth 20000 in
theorem kc101_314 : zt_code 101 314 = some (.isub, 315, 0, 0, []) := rfl
set_option maxRecDepth 20000 in
theorem kc101_315 : zt_code 101 315 = some (.aload_n 0, 316, 0, 0, []) := rfl
set_option maxRecDepth 20000 in
theorem kc101_316 : zt_code 101 316 = some (.aload_n 0, 317, 0, 0, []) := rfl
set_option maxRecDepth 20000 in
theorem kc101_317 : zt_code 101 317 = some (.getfield 75, 320, 8, 17, []) := rfl
set_option maxRecDepth 20000 in
theorem kc101_320 : zt_code 101 320 = some (.iload 8, 322, 0, 0, []) := rfl
set_option maxRecDepth 20000 in
theorem kc101_322 : zt_code 101 322 = some (.invokevirtual 123, 325, 86, 2, []) := rfl
set_option maxRecDepth 20000 in
theorem kc101_325 : zt_code 101 325 = some (.iadd, 326, 0, 0, []) := rfl
set_option maxRecDepth 20000 in
theorem kc101_326 : zt_code 101 326 = some (.aload_n 0, 327, 0, 0, []) := rfl
set_option maxRecDepth 20000 in
theorem kc101_327 : zt_code 101 327 = some (.getfield 7, 330, 8, 0, []) := rfl
set_option maxRecDepth 20000 in
theorem kc101_330 : zt_code 101 330 = some (.if_icmp .le 6, 333, 336, 0, []) := rfl
set_option maxRecDepth 20000 in
theorem kc101_333 : zt_code 101 333 = some (.bipush (-7), 335, 0, 0, []) := rfl
set_option maxRecDepth 20000 in
theorem kc101_335 : zt_code 101 335 = some (.ireturn, 336, 0, 0, []) := rfl
set_option maxRecDepth 20000 in
theorem kc101_336 : zt_code 101 336 = some (.aload_n 0, 337, 0, 0, []) := rfl
set_option maxRecDepth 20000 in
theorem kc101_337 : zt_code 101 337 = some (.getfield 26, 340, 8, 7, []) := rfl
set_option maxRecDepth 20000 in
theorem kc101_340 : zt_code 101 340 = some (.iload_n 3, 341, 0, 0, []) := rfl
set_option maxRecDepth 20000 in
theorem kc101_341 : zt_code 101 341 = some (.dup2, 342, 0, 0, []) := rfl
set_option maxRecDepth 20000 in
theorem kc101_342 : zt_code 101 342 = some (.iaload, 343, 0, 0, []) := rfl
set_option maxRecDepth 20000 in
theorem kc101_343 : zt_code 101 343 = some (.iconst 1, 344, 0, 0, []) := rfl
set_option maxRecDepth 20000 in
theorem kc101_344 : zt_code 101 344 = some (.iadd, 345, 0, 0, []) := rfl
set_option maxRecDepth 20000 in
theorem kc101_345 : zt_code 101 345 = some (.iastore, 346, 0, 0, []) := rfl
set_option maxRecDepth 20000 in
theorem kc101_346 : zt_code 101 346 = some (.aload_n 0, 347, 0, 0, []) := rfl
set_option maxRecDepth 20000 in
theorem kc101_347 : zt_code 101 347 = some (.iload 4, 349, 0, 0, []) := rfl
set_option maxRecDepth 20000 in
theorem kc101_349 : zt_code 101 349 = some (.invokevirtual 139, 352, 88, 1, []) := rfl
set_option maxRecDepth 20000 in
theorem kc101_352 : zt_code 101 352 = some (.aload_n 0, 353, 0, 0, []) := rfl
set_option maxRecDepth 20000 in
theorem kc101_353 : zt_code 101 353 = some (.getfield 93, 356, 8, 20, []) := rfl
set_option maxRecDepth 20000 in
theorem kc101_356 : zt_code 101 356 = some (.ifCond .le 23, 359, 379, 0, []) := rfl
set_option maxRecDepth 20000 in
theorem kc101_359 : zt_code 101 359 = some (.aload_n 0, 360, 0, 0, []) := rfl
set_option maxRecDepth 20000 in
theorem kc101_360 : zt_code 101 360 = some (.aload_n 0, 361, 0, 0, []) := rfl
set_option maxRecDepth 20000 in
theorem kc101_361 : zt_code 101 361 = some (.aload_n 0, 362, 0, 0, []) := rfl
set_option maxRecDepth 20000 in
theorem kc101_362 : zt_code 101 362 = some (.getfield 75, 365, 8, 17, []) := rfl
set_option maxRecDepth 20000 in
theorem kc101_365 : zt_code 101 365 = some (.aload_n 0, 366, 0, 0, []) := rfl
set_option maxRecDepth 20000 in
theorem kc101_366 : zt_code 101 366 = some (.getfield 81, 369, 8, 18, []) := rfl
set_option maxRecDepth 20000 in
theorem kc101_369 : zt_code 101 369 = some (.aload_n 0, 370, 0, 0, []) := rfl
set_option maxRecDepth 20000 in
theorem kc101_370 : zt_code 101 370 = some (.getfield 78, 373, 8, 19, []) := rfl
set_option maxRecDepth 20000 in
theorem kc101_373 : zt_code 101 373 = some (.invokevirtual 107, 376, 85, 3, []) := rfl
set_option maxRecDepth 20000 in
theorem kc101_376 : zt_code 101 376 = some (.invokevirtual 139, 379, 88, 1, []) := rfl
set_option maxRecDepth 20000 in
theorem kc101_379 : zt_code 101 379 = some (.aload_n 0, 380, 0, 0, []) := rfl
set_option maxRecDepth 20000 in
theorem kc101_380 : zt_code 101 380 = some (.getfield 26, 383, 8, 7, []) := rfl
set_option maxRecDepth 20000 in
theorem kc101_383 : zt_code 101 383 = some (.iload_n 3, 384, 0, 0, []) := rfl
set_option maxRecDepth 20000 in
theorem kc101_384 : zt_code 101 384 = some (.dup2, 385, 0, 0, []) := rfl
set_option maxRecDepth 20000 in
theorem kc101_385 : zt_code 101 385 = some (.iaload, 386, 0, 0, []) := rfl
set_option maxRecDepth 20000 in
theorem kc101_386 : zt_code 101 386 = some (.iconst 1, 387, 0, 0, []) := rfl
set_option maxRecDepth 20000 in
theorem kc101_387 : zt_code 101 387 = some (.isub, 388, 0, 0, []) := rfl
set_option maxRecDepth 20000 in
theorem kc101_388 : zt_code 101 388 = some (.iastore, 389, 0, 0, []) := rfl
set_option maxRecDepth 20000 in
theorem kc101_389 : zt_code 101 389 = some (.aload_n 0, 390, 0, 0, []) := rfl
set_option maxRecDepth 20000 in
theorem kc101_390 : zt_code 101 390 = some (.iload_n 3, 391, 0, 0, []) := rfl
set_option maxRecDepth 20000 in
theorem kc101_391 : zt_code 101 391 = some (.invokevirtual 127, 394, 87, 1, []) := rfl
set_option maxRecDepth 20000 in
theorem kc101_394 : zt_code 101 394 = some (.iload_n 3, 395, 0, 0, []) := rfl
set_option maxRecDepth 20000 in
theorem kc101_395 : zt_code 101 395 = some (.ireturn, 396, 0, 0, []) := rfl
theorem kc102_0 : zt_code 102 0 = some (.aload_n 0, 1, 0, 0, []) := rfl
theorem kc102_1 : zt_code 102 1 = some (.invokevirtual 130, 4, 76, 0, []) := rfl
theorem kc102_4 : zt_code 102 4 = some (.istore_n 2, 5, 0, 0, []) := rfl
theorem kc102_5 : zt_code 102 5 = some (.iload_n 2, 6, 0, 0, []) := rfl
theorem kc102_6 : zt_code 102 6 = some (.iconst (-1), 7, 0, 0, []) := rfl
theorem kc102_7 : zt_code 102 7 = some (.if_icmp .eq 5, 10, 12, 0, []) := rfl
theorem kc102_10 : zt_code 102 10 = some (.iconst (-1), 11, 0, 0, []) := rfl
theorem kc102_11 : zt_code 102 11 = some (.ireturn, 12, 0, 0, []) := rfl
theorem kc102_12 : zt_code 102 12 = some (.aload_n 0, 13, 0, 0, []) := rfl
theorem kc102_13 : zt_code 102 13 = some (.iconst 0, 14, 0, 0, []) := rfl
theorem kc102_14 : zt_code 102 14 = some (.aload_n 0, 15, 0, 0, []) := rfl
theorem kc102_15 : zt_code 102 15 = some (.getfield 58, 18, 8, 3, []) := rfl
theorem kc102_18 : zt_code 102 18 = some (.iload_n 1, 19, 0, 0, []) := rfl
theorem kc102_19 : zt_code 102 19 = some (.invokevirtual 115, 22, 90, 3, []) := rfl
theorem kc102_22 : zt_code 102 22 = some (.istore_n 3, 23, 0, 0, []) := rfl
theorem kc102_23 : zt_code 102 23 = some (.iload_n 3, 24, 0, 0, []) := rfl
theorem kc102_24 : zt_code 102 24 = some (.ifCond .ge 7, 27, 31, 0, []) := rfl
theorem kc102_27 : zt_code 102 27 = some (.iload_n 3, 28, 0, 0, []) := rfl
theorem kc102_28 : zt_code 102 28 = some (.goto 19, 31, 47, 0, []) := rfl
theorem kc102_31 : zt_code 102 31 = some (.aload_n 0, 32, 0, 0, []) := rfl
theorem kc102_32 : zt_code 102 32 = some (.getfield 93, 35, 8, 20, []) := rfl
theorem kc102_35 : zt_code 102 35 = some (.ifCond .ne 8, 38, 43, 0, []) := rfl
theorem kc102_38 : zt_code 102 38 = some (.bipush (-2), 40, 0, 0, []) := rfl
theorem kc102_40 : zt_code 102 40 = some (.goto 7, 43, 47, 0, []) := rfl
theorem kc102_43 : zt_code 102 43 = some (.aload_n 0, 44, 0, 0, []) := rfl
theorem kc102_44 : zt_code 102 44 = some (.getfield 93, 47, 8, 20, []) := rfl
theorem kc102_47 : zt_code 102 47 = some (.ireturn, 48, 0, 0, []) := rfl
theorem kc103_0 : zt_code 103 0 = some (.aload_n 0, 1, 0, 0, []) := rfl
theorem kc103_1 : zt_code 103 1 = some (.invokevirtual 130, 4, 76, 0, []) := rfl
theorem kc103_4 : zt_code 103 4 = some (.istore_n 1, 5, 0, 0, []) := rfl
theorem kc103_5 : zt_code 103 5 = some (.iload_n 1, 6, 0, 0, []) := rfl
theorem kc103_6 : zt_code 103 6 = some (.iconst (-1), 7, 0, 0, []) := rfl
theorem kc103_7 : zt_code 103 7 = some (.if_icmp .eq 5, 10, 12, 0, []) := rfl
theorem kc103_10 : zt_code 103 10 = some (.iconst (-1), 11, 0, 0, []) := rfl
theorem kc103_11 : zt_code 103 11 = some (.ireturn, 12, 0, 0, []) := rfl
theorem kc103_12 : zt_code 103 12 = some (.aload_n 0, 13, 0, 0, []) := rfl
theorem kc103_13 : zt_code 103 13 = some (.iconst 0, 14, 0, 0, []) := rfl
theorem kc103_14 : zt_code 103 14 = some (.aload_n 0, 15, 0, 0, []) := rfl
theorem kc103_15 : zt_code 103 15 = some (.getfield 58, 18, 8, 3, []) := rfl
theorem kc103_18 : zt_code 103 18 = some (.iconst 1, 19, 0, 0, []) := rfl
theorem kc103_19 : zt_code 103 19 = some (.invokevirtual 115, 22, 90, 3, []) := rfl
theorem kc103_22 : zt_code 103 22 = some (.istore_n 2, 23, 0, 0, []) := rfl
theorem kc103_23 : zt_code 103 23 = some (.iload_n 2, 24, 0, 0, []) := rfl
theorem kc103_24 : zt_code 103 24 = some (.ifCond .ge 5, 27, 29, 0, []) := rfl
theorem kc103_27 : zt_code 103 27 = some (.iload_n 2, 28, 0, 0, []) := rfl
theorem kc103_28 : zt_code 103 28 = some (.ireturn, 29, 0, 0, []) := rfl
theorem kc103_29 : zt_code 103 29 = some (.aload_n 0, 30, 0, 0, []) := rfl
theorem kc103_30 : zt_code 103 30 = some (.getfield 93, 33, 8, 20, []) := rfl
theorem kc103_33 : zt_code 103 33 = some (.ifCond .ne 6, 36, 39, 0, []) := rfl
theorem kc103_36 : zt_code 103 36 = some (.bipush (-2), 38, 0, 0, []) := rfl
theorem kc103_38 : zt_code 103 38 = some (.ireturn, 39, 0, 0, []) := rfl
theorem kc103_39 : zt_code 103 39 = some (.aload_n 0, 40, 0, 0, []) := rfl
theorem kc103_40 : zt_code 103 40 = some (.getfield 20, 43, 8, 5, []) := rfl
theorem kc103_43 : zt_code 103 43 = some (.aload_n 0, 44, 0, 0, []) := rfl
theorem kc103_44 : zt_code 103 44 = some (.getfield 93, 47, 8, 20, []) := rfl
theorem kc103_47 : zt_code 103 47 = some (.iaload, 48, 0, 0, []) := rfl
theorem kc103_48 : zt_code 103 48 = some (.iconst 1, 49, 0, 0, []) := rfl
theorem kc103_49 : zt_code 103 49 = some (.if_icmp .ne 17, 52, 66, 0, []) := rfl
theorem kc103_52 : zt_code 103 52 = some (.aload_n 0, 53, 0, 0, []) := rfl
theorem kc103_53 : zt_code 103 53 = some (.getfield 26, 56, 8, 7, []) := rfl
theorem kc103_56 : zt_code 103 56 = some (.aload_n 0, 57, 0, 0, []) := rfl
theorem kc103_57 : zt_code 103 57 = some (.getfield 93, 60, 8, 20, []) := rfl
theorem kc103_60 : zt_code 103 60 = some (.iaload, 61, 0, 0, []) := rfl
theorem kc103_61 : zt_code 103 61 = some (.bipush 100, 63, 0, 0, []) := rfl
theorem kc103_63 : zt_code 103 63 = some (.if_icmp .ne 5, 66, 68, 0, []) := rfl
theorem kc103_66 : zt_code 103 66 = some (.iconst (-1), 67, 0, 0, []) := rfl
theorem kc103_67 : zt_code 103 67 = some (.ireturn, 68, 0, 0, []) := rfl
theorem kc103_68 : zt_code 103 68 = some (.aload_n 0, 69, 0, 0, []) := rfl
theorem kc103_69 : zt_code 103 69 = some (.getfield 26, 72, 8, 7, []) := rfl
theorem kc103_72 : zt_code 103 72 = some (.aload_n 0, 73, 0, 0, []) := rfl
theorem kc103_73 : zt_code 103 73 = some (.getfield 93, 76, 8, 20, []) := rfl
theorem kc103_76 : zt_code 103 76 = some (.dup2, 77, 0, 0, []) := rfl
theorem kc103_77 : zt_code 103 77 = some (.iaload, 78, 0, 0, []) := rfl
theorem kc103_78 : zt_code 103 78 = some (.iconst 1, 79, 0, 0, []) := rfl
theorem kc103_79 : zt_code 103 79 = some (.iadd, 80, 0, 0, []) := rfl
theorem kc103_80 : zt_code 103 80 = some (.iastore, 81, 0, 0, []) := rfl
theorem kc103_81 : zt_code 103 81 = some (.aload_n 0, 82, 0, 0, []) := rfl
theorem kc103_82 : zt_code 103 82 = some (.getfield 93, 85, 8, 20, []) := rfl
theorem kc103_85 : zt_code 103 85 = some (.ireturn, 86, 0, 0, []) := rfl
theorem kc104_0 : zt_code 104 0 = some (.iload_n 1, 1, 0, 0, []) := rfl
theorem kc104_1 : zt_code 104 1 = some (.iconst 1, 2, 0, 0, []) := rfl
theorem kc104_2 : zt_code 104 2 = some (.if_icmp .lt 22, 5, 24, 0, []) := rfl
theorem kc104_5 : zt_code 104 5 = some (.iload_n 1, 6, 0, 0, []) := rfl
theorem kc104_6 : zt_code 104 6 = some (.bipush 40, 8, 0, 0, []) := rfl
theorem kc104_8 : zt_code 104 8 = some (.if_icmp .gt 16, 11, 24, 0, []) := rfl
theorem kc104_11 : zt_code 104 11 = some (.aload_n 0, 12, 0, 0, []) := rfl
theorem kc104_12 : zt_code 104 12 = some (.getfield 20, 15, 8, 5, []) := rfl
theorem kc104_15 : zt_code 104 15 = some (.iload_n 1, 16, 0, 0, []) := rfl
theorem kc104_16 : zt_code 104 16 = some (.iaload, 17, 0, 0, []) := rfl
theorem kc104_17 : zt_code 104 17 = some (.ifCond .le 7, 20, 24, 0, []) := rfl
theorem kc104_20 : zt_code 104 20 = some (.iconst 1, 21, 0, 0, []) := rfl
theorem kc104_21 : zt_code 104 21 = some (.goto 4, 24, 25, 0, []) := rfl
theorem kc104_24 : zt_code 104 24 = some (.iconst 0, 25, 0, 0, []) := rfl
theorem kc104_25 : zt_code 104 25 = some (.ireturn, 26, 0, 0, []) := rfl
theorem kc105_0 : zt_code 105 0 = some (.aload_n 0, 1, 0, 0, []) := rfl
theorem kc105_1 : zt_code 105 1 = some (.iload_n 1, 2, 0, 0, []) := rfl
theorem kc105_2 : zt_code 105 2 = some (.invokevirtual 146, 5, 104, 1, []) := rfl
theorem kc105_5 : zt_code 105 5 = some (.ifCond .eq 12, 8, 17, 0, []) := rfl
theorem kc105_8 : zt_code 105 8 = some (.aload_n 0, 9, 0, 0, []) := rfl
theorem kc105_9 : zt_code 105 9 = some (.getfield 26, 12, 8, 7, []) := rfl
theorem kc105_12 : zt_code 105 12 = some (.iload_n 1, 13, 0, 0, []) := rfl
theorem kc105_13 : zt_code 105 13 = some (.iaload, 14, 0, 0, []) := rfl
theorem kc105_14 : zt_code 105 14 = some (.ifCond .ne 5, 17, 19, 0, []) := rfl
theorem kc105_17 : zt_code 105 17 = some (.iconst (-1), 18, 0, 0, []) := rfl
theorem kc105_18 : zt_code 105 18 = some (.ireturn, 19, 0, 0, []) := rfl
theorem kc105_19 : zt_code 105 19 = some (.aload_n 0, 20, 0, 0, []) := rfl
theorem kc105_20 : zt_code 105 20 = some (.getfield 26, 23, 8, 7, []) := rfl
theorem kc105_23 : zt_code 105 23 = some (.iload_n 1, 24, 0, 0, []) := rfl
theorem kc105_24 : zt_code 105 24 = some (.dup2, 25, 0, 0, []) := rfl
theorem kc105_25 : zt_code 105 25 = some (.iaload, 26, 0, 0, []) := rfl
theorem kc105_26 : zt_code 105 26 = some (.iconst 1, 27, 0, 0, []) := rfl
theorem kc105_27 : zt_code 105 27 = some (.isub, 28, 0, 0, []) := rfl
theorem kc105_28 : zt_code 105 28 = some (.iastore, 29, 0, 0, []) := rfl
theorem kc105_29 : zt_code 105 29 = some (.aload_n 0, 30, 0, 0, []) := rfl
theorem kc105_30 : zt_code 105 30 = some (.iload_n 1, 31, 0, 0, []) := rfl
theorem kc105_31 : zt_code 105 31 = some (.invokevirtual 87, 34, 81, 1, []) := rfl
theorem kc105_34 : zt_code 105 34 = some (.istore_n 2, 35, 0, 0, []) := rfl
theorem kc105_35 : zt_code 105 35 = some (.iload_n 2, 36, 0, 0, []) := rfl
theorem kc105_36 : zt_code 105 36 = some (.ifCond .ne 19, 39, 55, 0, []) := rfl
theorem kc105_39 : zt_code 105 39 = some (.aload_n 0, 40, 0, 0, []) := rfl
theorem kc105_40 : zt_code 105 40 = some (.getfield 26, 43, 8, 7, []) := rfl
theorem kc105_43 : zt_code 105 43 = some (.iload_n 1, 44, 0, 0, []) := rfl
theorem kc105_44 : zt_code 105 44 = some (.iaload, 45, 0, 0, []) := rfl
theorem kc105_45 : zt_code 105 45 = some (.ifCond .ne 10, 48, 55, 0, []) := rfl
theorem kc105_48 : zt_code 105 48 = some (.aload_n 0, 49, 0, 0, []) := rfl
theorem kc105_49 : zt_code 105 49 = some (.getfield 20, 52, 8, 5, []) := rfl
theorem kc105_52 : zt_code 105 52 = some (.iload_n 1, 53, 0, 0, []) := rfl
theorem kc105_53 : zt_code 105 53 = some (.iconst 0, 54, 0, 0, []) := rfl
theorem kc105_54 : zt_code 105 54 = some (.iastore, 55, 0, 0, []) := rfl
theorem kc105_55 : zt_code 105 55 = some (.iload_n 2, 56, 0, 0, []) := rfl
theorem kc105_56 : zt_code 105 56 = some (.ireturn, 57, 0, 0, []) := rfl
theorem kc106_0 : zt_code 106 0 = some (.iconst 0, 1, 0, 0, []) := rfl
theorem kc106_1 : zt_code 106 1 = some (.istore_n 2, 2, 0, 0, []) := rfl
theorem kc106_2 : zt_code 106 2 = some (.iconst 0, 3, 0, 0, []) := rfl
theorem kc106_3 : zt_code 106 3 = some (.istore_n 3, 4, 0, 0, []) := rfl
theorem kc106_4 : zt_code 106 4 = some (.iload_n 3, 5, 0, 0, []) := rfl
theorem kc106_5 : zt_code 106 5 = some (.aload_n 0, 6, 0, 0, []) := rfl
theorem kc106_6 : zt_code 106 6 = some (.getfield 68, 9, 8, 10, []) := rfl
theorem kc106_9 : zt_code 106 9 = some (.if_icmp .ge 42, 12, 51, 0, []) := rfl
theorem kc106_12 : zt_code 106 12 = some (.iload_n 2, 13, 0, 0, []) := rfl
theorem kc106_13 : zt_code 106 13 = some (.aload_n 0, 14, 0, 0, []) := rfl
theorem kc106_14 : zt_code 106 14 = some (.getfield 37, 17, 8, 11, []) := rfl
theorem kc106_17 : zt_code 106 17 = some (.iload_n 3, 18, 0, 0, []) := rfl
theorem kc106_18 : zt_code 106 18 = some (.iaload, 19, 0, 0, []) := rfl
theorem kc106_19 : zt_code 106 19 = some (.iload_n 1, 20, 0, 0, []) := rfl
theorem kc106_20 : zt_code 106 20 = some (.if_icmp .ne 22, 23, 42, 0, []) := rfl
theorem kc106_23 : zt_code 106 23 = some (.aload_n 0, 24, 0, 0, []) := rfl
theorem kc106_24 : zt_code 106 24 = some (.getfield 20, 27, 8, 5, []) := rfl
theorem kc106_27 : zt_code 106 27 = some (.aload_n 0, 28, 0, 0, []) := rfl
theorem kc106_28 : zt_code 106 28 = some (.getfield 40, 31, 8, 12, []) := rfl
theorem kc106_31 : zt_code 106 31 = some (.iload_n 3, 32, 0, 0, []) := rfl
theorem kc106_32 : zt_code 106 32 = some (.iaload, 33, 0, 0, []) := rfl
theorem kc106_33 : zt_code 106 33 = some (.iaload, 34, 0, 0, []) := rfl
theorem kc106_34 : zt_code 106 34 = some (.iconst 2, 35, 0, 0, []) := rfl
theorem kc106_35 : zt_code 106 35 = some (.if_icmp .ne 7, 38, 42, 0, []) := rfl
theorem kc106_38 : zt_code 106 38 = some (.iconst 1, 39, 0, 0, []) := rfl
theorem kc106_39 : zt_code 106 39 = some (.goto 4, 42, 43, 0, []) := rfl
theorem kc106_42 : zt_code 106 42 = some (.iconst 0, 43, 0, 0, []) := rfl
theorem kc106_43 : zt_code 106 43 = some (.iadd, 44, 0, 0, []) := rfl
theorem kc106_44 : zt_code 106 44 = some (.istore_n 2, 45, 0, 0, []) := rfl
theorem kc106_45 : zt_code 106 45 = some (.iinc 3 1, 48, 0, 0, []) := rfl
theorem kc106_48 : zt_code 106 48 = some (.goto (-44), 51, 4, 0, []) := rfl
theorem kc106_51 : zt_code 106 51 = some (.iload_n 2, 52, 0, 0, []) := rfl
theorem kc106_52 : zt_code 106 52 = some (.ireturn, 53, 0, 0, []) := rfl
theorem kc107_0 : zt_code 107 0 = some (.aload_n 0, 1, 0, 0, []) := rfl
theorem kc107_1 : zt_code 107 1 = some (.iload_n 1, 2, 0, 0, []) := rfl
theorem kc107_2 : zt_code 107 2 = some (.invokevirtual 146, 5, 104, 1, []) := rfl
theorem kc107_5 : zt_code 107 5 = some (.ifCond .eq 12, 8, 17, 0, []) := rfl
theorem kc107_8 : zt_code 107 8 = some (.iload_n 2, 9, 0, 0, []) := rfl
theorem kc107_9 : zt_code 107 9 = some (.ifCond .lt 8, 12, 17, 0, []) := rfl
theorem kc107_12 : zt_code 107 12 = some (.iload_n 2, 13, 0, 0, []) := rfl
theorem kc107_13 : zt_code 107 13 = some (.iconst 4, 14, 0, 0, []) := rfl
theorem kc107_14 : zt_code 107 14 = some (.if_icmp .le 5, 17, 19, 0, []) := rfl
theorem kc107_17 : zt_code 107 17 = some (.iconst (-1), 18, 0, 0, []) := rfl
theorem kc107_18 : zt_code 107 18 = some (.ireturn, 19, 0, 0, []) := rfl
theorem kc107_19 : zt_code 107 19 = some (.aload_n 0, 20, 0, 0, []) := rfl
theorem kc107_20 : zt_code 107 20 = some (.getfield 20, 23, 8, 5, []) := rfl
theorem kc107_23 : zt_code 107 23 = some (.iload_n 1, 24, 0, 0, []) := rfl
theorem kc107_24 : zt_code 107 24 = some (.iaload, 25, 0, 0, []) := rfl
theorem kc107_25 : zt_code 107 25 = some (.iconst 2, 26, 0, 0, []) := rfl
theorem kc107_26 : zt_code 107 26 = some (.if_icmp .ne 7, 29, 33, 0, []) := rfl
theorem kc107_29 : zt_code 107 29 = some (.iconst 1, 30, 0, 0, []) := rfl
theorem kc107_30 : zt_code 107 30 = some (.goto 4, 33, 34, 0, []) := rfl
theorem kc107_33 : zt_code 107 33 = some (.iconst 0, 34, 0, 0, []) := rfl
theorem kc107_34 : zt_code 107 34 = some (.istore_n 3, 35, 0, 0, []) := rfl
theorem kc107_35 : zt_code 107 35 = some (.iload_n 2, 36, 0, 0, []) := rfl
theorem kc107_36 : zt_code 107 36 = some (.tableswitch 103 0 3 #[32, 39, 59, 97], 68, 139, 0, [(0, 68), (1, 75), (2, 95), (3, 133)]) := rfl
theorem kc107_68 : zt_code 107 68 = some (.aload_n 0, 69, 0, 0, []) := rfl
theorem kc107_69 : zt_code 107 69 = some (.getfield 20, 72, 8, 5, []) := rfl
theorem kc107_72 : zt_code 107 72 = some (.iload_n 1, 73, 0, 0, []) := rfl
theorem kc107_73 : zt_code 107 73 = some (.iaload, 74, 0, 0, []) := rfl
theorem kc107_74 : zt_code 107 74 = some (.ireturn, 75, 0, 0, []) := rfl
theorem kc107_75 : zt_code 107 75 = some (.iload_n 3, 76, 0, 0, []) := rfl
theorem kc107_76 : zt_code 107 76 = some (.ifCond .eq 13, 79, 89, 0, []) := rfl
theorem kc107_79 : zt_code 107 79 = some (.iconst 2, 80, 0, 0, []) := rfl
theorem kc107_80 : zt_code 107 80 = some (.aload_n 0, 81, 0, 0, []) := rfl
theorem kc107_81 : zt_code 107 81 = some (.iload_n 1, 82, 0, 0, []) := rfl
theorem kc107_82 : zt_code 107 82 = some (.invokevirtual 150, 85, 106, 1, []) := rfl
theorem kc107_85 : zt_code 107 85 = some (.iadd, 86, 0, 0, []) := rfl
theorem kc107_86 : zt_code 107 86 = some (.goto 8, 89, 94, 0, []) := rfl
theorem kc107_89 : zt_code 107 89 = some (.aload_n 0, 90, 0, 0, []) := rfl
theorem kc107_90 : zt_code 107 90 = some (.iload_n 1, 91, 0, 0, []) := rfl
theorem kc107_91 : zt_code 107 91 = some (.invokevirtual 87, 94, 81, 1, []) := rfl
theorem kc107_94 : zt_code 107 94 = some (.ireturn, 95, 0, 0, []) := rfl
theorem kc107_95 : zt_code 107 95 = some (.iload_n 3, 96, 0, 0, []) := rfl
theorem kc107_96 : zt_code 107 96 = some (.ifCond .eq 11, 99, 107, 0, []) := rfl
theorem kc107_99 : zt_code 107 99 = some (.aload_n 0, 100, 0, 0, []) := rfl
theorem kc107_100 : zt_code 107 100 = some (.iload_n 1, 101, 0, 0, []) := rfl
theorem kc107_101 : zt_code 107 101 = some (.invokevirtual 84, 104, 82, 1, []) := rfl
theorem kc107_104 : zt_code 107 104 = some (.goto 28, 107, 132, 0, []) := rfl
theorem kc107_107 : zt_code 107 107 = some (.aload_n 0, 108, 0, 0, []) := rfl
theorem kc107_108 : zt_code 107 108 = some (.getfield 20, 111, 8, 5, []) := rfl
theorem kc107_111 : zt_code 107 111 = some (.iload_n 1, 112, 0, 0, []) := rfl
theorem kc107_112 : zt_code 107 112 = some (.iaload, 113, 0, 0, []) := rfl
theorem kc107_113 : zt_code 107 113 = some (.iconst 3, 114, 0, 0, []) := rfl
theorem kc107_114 : zt_code 107 114 = some (.if_icmp .ne 12, 117, 126, 0, []) := rfl
theorem kc107_117 : zt_code 107 117 = some (.aload_n 0, 118, 0, 0, []) := rfl
theorem kc107_118 : zt_code 107 118 = some (.getfield 29, 121, 8, 8, []) := rfl
theorem kc107_121 : zt_code 107 121 = some (.iload_n 1, 122, 0, 0, []) := rfl
theorem kc107_122 : zt_code 107 122 = some (.iaload, 123, 0, 0, []) := rfl
theorem kc107_123 : zt_code 107 123 = some (.goto 9, 126, 132, 0, []) := rfl
theorem kc107_126 : zt_code 107 126 = some (.aload_n 0, 127, 0, 0, []) := rfl
theorem kc107_127 : zt_code 107 127 = some (.getfield 26, 130, 8, 7, []) := rfl
theorem kc107_130 : zt_code 107 130 = some (.iload_n 1, 131, 0, 0, []) := rfl
theorem kc107_131 : zt_code 107 131 = some (.iaload, 132, 0, 0, []) := rfl
theorem kc107_132 : zt_code 107 132 = some (.ireturn, 133, 0, 0, []) := rfl
theorem kc107_133 : zt_code 107 133 = some (.aload_n 0, 134, 0, 0, []) := rfl
theorem kc107_134 : zt_code 107 134 = some (.iload_n 1, 135, 0, 0, []) := rfl
theorem kc107_135 : zt_code 107 135 = some (.invokevirtual 65, 138, 78, 1, []) := rfl
theorem kc107_138 : zt_code 107 138 = some (.ireturn, 139, 0, 0, []) := rfl
theorem kc107_139 : zt_code 107 139 = some (.iload_n 3, 140, 0, 0, []) := rfl
theorem kc107_140 : zt_code 107 140 = some (.ifCond .eq 11, 143, 151, 0, []) := rfl
theorem kc107_143 : zt_code 107 143 = some (.aload_n 0, 144, 0, 0, []) := rfl
theorem kc107_144 : zt_code 107 144 = some (.iload_n 1, 145, 0, 0, []) := rfl
theorem kc107_145 : zt_code 107 145 = some (.invokevirtual 104, 148, 83, 1, []) := rfl
theorem kc107_148 : zt_code 107 148 = some (.goto 4, 151, 152, 0, []) := rfl
theorem kc107_151 : zt_code 107 151 = some (.iconst 0, 152, 0, 0, []) := rfl
theorem kc107_152 : zt_code 107 152 = some (.ireturn, 153, 0, 0, []) := rfl
theorem kc108_0 : zt_code 108 0 = some (.aload_n 0, 1, 0, 0, []) := rfl
theorem kc108_1 : zt_code 108 1 = some (.iload_n 1, 2, 0, 0, []) := rfl
theorem kc108_2 : zt_code 108 2 = some (.invokevirtual 146, 5, 104, 1, []) := rfl
theorem kc108_5 : zt_code 108 5 = some (.ifCond .eq 27, 8, 32, 0, []) := rfl
theorem kc108_8 : zt_code 108 8 = some (.aload_n 0, 9, 0, 0, []) := rfl
theorem kc108_9 : zt_code 108 9 = some (.getfield 20, 12, 8, 5, []) := rfl
theorem kc108_12 : zt_code 108 12 = some (.iload_n 1, 13, 0, 0, []) := rfl
theorem kc108_13 : zt_code 108 13 = some (.iaload, 14, 0, 0, []) := rfl
theorem kc108_14 : zt_code 108 14 = some (.iconst 3, 15, 0, 0, []) := rfl
theorem kc108_15 : zt_code 108 15 = some (.if_icmp .ne 17, 18, 32, 0, []) := rfl
theorem kc108_18 : zt_code 108 18 = some (.iload_n 2, 19, 0, 0, []) := rfl
theorem kc108_19 : zt_code 108 19 = some (.ifCond .lt 13, 22, 32, 0, []) := rfl
theorem kc108_22 : zt_code 108 22 = some (.iload_n 2, 23, 0, 0, []) := rfl
theorem kc108_23 : zt_code 108 23 = some (.aload_n 0, 24, 0, 0, []) := rfl
theorem kc108_24 : zt_code 108 24 = some (.getfield 29, 27, 8, 8, []) := rfl
theorem kc108_27 : zt_code 108 27 = some (.iload_n 1, 28, 0, 0, []) := rfl
theorem kc108_28 : zt_code 108 28 = some (.iaload, 29, 0, 0, []) := rfl
theorem kc108_29 : zt_code 108 29 = some (.if_icmp .lt 7, 32, 36, 0, []) := rfl
theorem kc108_32 : zt_code 108 32 = some (.iconst (-1), 33, 0, 0, []) := rfl
theorem kc108_33 : zt_code 108 33 = some (.goto 19, 36, 52, 0, []) := rfl
theorem kc108_36 : zt_code 108 36 = some (.aload_n 0, 37, 0, 0, []) := rfl
theorem kc108_37 : zt_code 108 37 = some (.getfield 33, 40, 8, 9, []) := rfl
theorem kc108_40 : zt_code 108 40 = some (.sipush 1000, 43, 0, 0, []) := rfl
theorem kc108_43 : zt_code 108 43 = some (.iload_n 1, 44, 0, 0, []) := rfl
theorem kc108_44 : zt_code 108 44 = some (.imul, 45, 0, 0, []) := rfl
theorem kc108_45 : zt_code 108 45 = some (.iload_n 2, 46, 0, 0, []) := rfl
theorem kc108_46 : zt_code 108 46 = some (.iadd, 47, 0, 0, []) := rfl
theorem kc108_47 : zt_code 108 47 = some (.baload, 48, 0, 0, []) := rfl
theorem kc108_48 : zt_code 108 48 = some (.sipush 255, 51, 0, 0, []) := rfl
theorem kc108_51 : zt_code 108 51 = some (.iand, 52, 0, 0, []) := rfl
theorem kc108_52 : zt_code 108 52 = some (.ireturn, 53, 0, 0, []) := rfl
theorem kc109_0 : zt_code 109 0 = some (.iload_n 1, 1, 0, 0, []) := rfl
theorem kc109_1 : zt_code 109 1 = some (.ifCond .ne 10, 4, 11, 0, []) := rfl
theorem kc109_4 : zt_code 109 4 = some (.aload_n 0, 5, 0, 0, []) := rfl
theorem kc109_5 : zt_code 109 5 = some (.invokevirtual 153, 8, 80, 0, []) := rfl
theorem kc109_8 : zt_code 109 8 = some (.goto 40, 11, 48, 0, []) := rfl
theorem kc109_11 : zt_code 109 11 = some (.iload_n 1, 12, 0, 0, []) := rfl
theorem kc109_12 : zt_code 109 12 = some (.iconst 1, 13, 0, 0, []) := rfl
theorem kc109_13 : zt_code 109 13 = some (.if_icmp .ne 10, 16, 23, 0, []) := rfl
theorem kc109_16 : zt_code 109 16 = some (.aload_n 0, 17, 0, 0, []) := rfl
theorem kc109_17 : zt_code 109 17 = some (.getfield 68, 20, 8, 10, []) := rfl
theorem kc109_20 : zt_code 109 20 = some (.goto 28, 23, 48, 0, []) := rfl
theorem kc109_23 : zt_code 109 23 = some (.iload_n 1, 24, 0, 0, []) := rfl
theorem kc109_24 : zt_code 109 24 = some (.iconst 2, 25, 0, 0, []) := rfl
theorem kc109_25 : zt_code 109 25 = some (.if_icmp .ne 10, 28, 35, 0, []) := rfl
theorem kc109_28 : zt_code 109 28 = some (.aload_n 0, 29, 0, 0, []) := rfl
theorem kc109_29 : zt_code 109 29 = some (.getfield 53, 32, 8, 1, []) := rfl
theorem kc109_32 : zt_code 109 32 = some (.goto 16, 35, 48, 0, []) := rfl
theorem kc109_35 : zt_code 109 35 = some (.iload_n 1, 36, 0, 0, []) := rfl
theorem kc109_36 : zt_code 109 36 = some (.iconst 3, 37, 0, 0, []) := rfl
theorem kc109_37 : zt_code 109 37 = some (.if_icmp .ne 10, 40, 47, 0, []) := rfl
theorem kc109_40 : zt_code 109 40 = some (.aload_n 0, 41, 0, 0, []) := rfl
theorem kc109_41 : zt_code 109 41 = some (.invokevirtual 119, 44, 79, 0, []) := rfl
theorem kc109_44 : zt_code 109 44 = some (.goto 4, 47, 48, 0, []) := rfl
theorem kc109_47 : zt_code 109 47 = some (.iconst (-1), 48, 0, 0, []) := rfl
theorem kc109_48 : zt_code 109 48 = some (.ireturn, 49, 0, 0, []) := rfl
