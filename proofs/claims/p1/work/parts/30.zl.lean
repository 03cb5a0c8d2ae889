/-! the law's own walk (printed by wip/gen/lawwalk.py) -/
theorem zm_169 : zMt[169]? = some (yL_law, cL_law, 4, (some .boolean), 8, false) := rfl
theorem zd_169 (pc : Nat) : zdec 169 pc = zdl_169.lookup pc := rfl
theorem zq_8_9 : zcl 8 9 = some (0, 0, 83, 0) := by decide +kernel
theorem zq_8_12 : zcl 8 12 = some (0, 0, 125, 0) := by decide +kernel
theorem zq_8_13 : zcl 8 13 = some (3, 4, 74, 1) := by decide +kernel
theorem zq_8_17 : zcl 8 17 = some (3, 5, 106, 1) := by decide +kernel
theorem zq_8_18 : zcl 8 18 = some (3, 4, 86, 4) := by decide +kernel
theorem zq_8_22 : zcl 8 22 = some (3, 5, 141, 4) := by decide +kernel
theorem zq_8_23 : zcl 8 23 = some (3, 4, 73, 2) := by decide +kernel
theorem zq_8_27 : zcl 8 27 = some (3, 5, 104, 2) := by decide +kernel
theorem zq_8_28 : zcl 8 28 = some (3, 4, 100, 0) := by decide +kernel
theorem zq_8_32 : zcl 8 32 = some (3, 5, 168, 0) := by decide +kernel
theorem zq_8_33 : zcl 8 33 = some (3, 4, 95, 2) := by decide +kernel
theorem zq_8_36 : zcl 8 36 = some (3, 5, 159, 2) := by decide +kernel
theorem zq_8_37 : zcl 8 37 = some (3, 4, 79, 1) := by decide +kernel
theorem zq_8_40 : zcl 8 40 = some (3, 5, 115, 1) := by decide +kernel
theorem zq_8_41 : zcl 8 41 = some (3, 4, 80, 2) := by decide +kernel
theorem zq_8_44 : zcl 8 44 = some (3, 5, 117, 2) := by decide +kernel
theorem zq_8_45 : zcl 8 45 = some (3, 4, 72, 2) := by decide +kernel
theorem zq_8_48 : zcl 8 48 = some (3, 5, 103, 2) := by decide +kernel
theorem zq_8_49 : zcl 8 49 = some (3, 4, 93, 2) := by decide +kernel
theorem zq_8_52 : zcl 8 52 = some (3, 5, 154, 2) := by decide +kernel
theorem zq_8_53 : zcl 8 53 = some (3, 4, 76, 2) := by decide +kernel
theorem zq_8_56 : zcl 8 56 = some (3, 5, 111, 2) := by decide +kernel
theorem zq_8_57 : zcl 8 57 = some (3, 4, 82, 4) := by decide +kernel
theorem zq_8_60 : zcl 8 60 = some (3, 5, 124, 4) := by decide +kernel
theorem zq_8_61 : zcl 8 61 = some (3, 4, 94, 1) := by decide +kernel
theorem zq_8_64 : zcl 8 64 = some (3, 5, 158, 1) := by decide +kernel
theorem zq_8_65 : zcl 8 65 = some (3, 4, 87, 1) := by decide +kernel
theorem zq_8_68 : zcl 8 68 = some (3, 5, 142, 1) := by decide +kernel
theorem zq_8_69 : zcl 8 69 = some (3, 4, 96, 1) := by decide +kernel
theorem zq_8_72 : zcl 8 72 = some (3, 5, 160, 1) := by decide +kernel
theorem zq_8_73 : zcl 8 73 = some (3, 4, 90, 2) := by decide +kernel
theorem zq_8_76 : zcl 8 76 = some (3, 5, 144, 2) := by decide +kernel
theorem zq_8_77 : zcl 8 77 = some (3, 4, 99, 3) := by decide +kernel
theorem zq_8_81 : zcl 8 81 = some (3, 5, 166, 3) := by decide +kernel
theorem zq_8_82 : zcl 8 82 = some (3, 4, 78, 3) := by decide +kernel
theorem zq_8_85 : zcl 8 85 = some (3, 5, 114, 3) := by decide +kernel
theorem zq_8_86 : zcl 8 86 = some (3, 4, 77, 2) := by decide +kernel
theorem zq_8_89 : zcl 8 89 = some (3, 5, 113, 2) := by decide +kernel
theorem zq_8_90 : zcl 8 90 = some (3, 4, 98, 3) := by decide +kernel
theorem zq_8_93 : zcl 8 93 = some (3, 5, 162, 3) := by decide +kernel
theorem zq_8_94 : zcl 8 94 = some (3, 4, 81, 1) := by decide +kernel
theorem zq_8_97 : zcl 8 97 = some (3, 5, 123, 1) := by decide +kernel
theorem zq_8_98 : zcl 8 98 = some (3, 4, 75, 1) := by decide +kernel
theorem zq_8_101 : zcl 8 101 = some (3, 5, 107, 1) := by decide +kernel
theorem zq_8_102 : zcl 8 102 = some (3, 4, 92, 0) := by decide +kernel
theorem zq_8_105 : zcl 8 105 = some (3, 5, 147, 0) := by decide +kernel
theorem zqv_8_13_4 : zclv 8 13 4 = some (3, 4, 74, 1) := by decide +kernel
theorem zqv_8_17_5 : zclv 8 17 5 = some (3, 5, 106, 1) := by decide +kernel
theorem zqv_8_18_4 : zclv 8 18 4 = some (3, 4, 86, 4) := by decide +kernel
theorem zqv_8_22_5 : zclv 8 22 5 = some (3, 5, 141, 4) := by decide +kernel
theorem zqv_8_23_4 : zclv 8 23 4 = some (3, 4, 73, 2) := by decide +kernel
theorem zqv_8_27_5 : zclv 8 27 5 = some (3, 5, 104, 2) := by decide +kernel
theorem zqv_8_28_4 : zclv 8 28 4 = some (3, 4, 100, 0) := by decide +kernel
theorem zqv_8_32_5 : zclv 8 32 5 = some (3, 5, 168, 0) := by decide +kernel
theorem zqv_8_33_4 : zclv 8 33 4 = some (3, 4, 95, 2) := by decide +kernel
theorem zqv_8_36_5 : zclv 8 36 5 = some (3, 5, 159, 2) := by decide +kernel
theorem zqv_8_37_4 : zclv 8 37 4 = some (3, 4, 79, 1) := by decide +kernel
theorem zqv_8_40_5 : zclv 8 40 5 = some (3, 5, 115, 1) := by decide +kernel
theorem zqv_8_41_4 : zclv 8 41 4 = some (3, 4, 80, 2) := by decide +kernel
theorem zqv_8_44_5 : zclv 8 44 5 = some (3, 5, 117, 2) := by decide +kernel
theorem zqv_8_45_4 : zclv 8 45 4 = some (3, 4, 72, 2) := by decide +kernel
theorem zqv_8_48_5 : zclv 8 48 5 = some (3, 5, 103, 2) := by decide +kernel
theorem zqv_8_49_4 : zclv 8 49 4 = some (3, 4, 93, 2) := by decide +kernel
theorem zqv_8_52_5 : zclv 8 52 5 = some (3, 5, 154, 2) := by decide +kernel
theorem zqv_8_53_4 : zclv 8 53 4 = some (3, 4, 76, 2) := by decide +kernel
theorem zqv_8_56_5 : zclv 8 56 5 = some (3, 5, 111, 2) := by decide +kernel
theorem zqv_8_57_4 : zclv 8 57 4 = some (3, 4, 82, 4) := by decide +kernel
theorem zqv_8_60_5 : zclv 8 60 5 = some (3, 5, 124, 4) := by decide +kernel
theorem zqv_8_61_4 : zclv 8 61 4 = some (3, 4, 94, 1) := by decide +kernel
theorem zqv_8_64_5 : zclv 8 64 5 = some (3, 5, 158, 1) := by decide +kernel
theorem zqv_8_65_4 : zclv 8 65 4 = some (3, 4, 87, 1) := by decide +kernel
theorem zqv_8_68_5 : zclv 8 68 5 = some (3, 5, 142, 1) := by decide +kernel
theorem zqv_8_69_4 : zclv 8 69 4 = some (3, 4, 96, 1) := by decide +kernel
theorem zqv_8_72_5 : zclv 8 72 5 = some (3, 5, 160, 1) := by decide +kernel
theorem zqv_8_73_4 : zclv 8 73 4 = some (3, 4, 90, 2) := by decide +kernel
theorem zqv_8_76_5 : zclv 8 76 5 = some (3, 5, 144, 2) := by decide +kernel
theorem zqv_8_77_4 : zclv 8 77 4 = some (3, 4, 99, 3) := by decide +kernel
theorem zqv_8_81_5 : zclv 8 81 5 = some (3, 5, 166, 3) := by decide +kernel
theorem zqv_8_82_4 : zclv 8 82 4 = some (3, 4, 78, 3) := by decide +kernel
theorem zqv_8_85_5 : zclv 8 85 5 = some (3, 5, 114, 3) := by decide +kernel
theorem zqv_8_86_4 : zclv 8 86 4 = some (3, 4, 77, 2) := by decide +kernel
theorem zqv_8_89_5 : zclv 8 89 5 = some (3, 5, 113, 2) := by decide +kernel
theorem zqv_8_90_4 : zclv 8 90 4 = some (3, 4, 98, 3) := by decide +kernel
theorem zqv_8_93_5 : zclv 8 93 5 = some (3, 5, 162, 3) := by decide +kernel
theorem zqv_8_94_4 : zclv 8 94 4 = some (3, 4, 81, 1) := by decide +kernel
theorem zqv_8_97_5 : zclv 8 97 5 = some (3, 5, 123, 1) := by decide +kernel
theorem zqv_8_98_4 : zclv 8 98 4 = some (3, 4, 75, 1) := by decide +kernel
theorem zqv_8_101_5 : zclv 8 101 5 = some (3, 5, 107, 1) := by decide +kernel
theorem zqv_8_102_4 : zclv 8 102 4 = some (3, 4, 92, 0) := by decide +kernel
theorem zqv_8_105_5 : zclv 8 105 5 = some (3, 5, 147, 0) := by decide +kernel
theorem zdL_18 : zdec 169 18 = some (.iload_n 3, 1) := by decide +kernel
theorem zdL_19 : zdec 169 19 = some (.aload_n 0, 1) := by decide +kernel
theorem zdL_20 : zdec 169 20 = some (.arraylength, 1) := by decide +kernel
theorem zdL_21 : zdec 169 21 = some (.iconst 5, 1) := by decide +kernel
theorem zdL_22 : zdec 169 22 = some (.isub, 1) := by decide +kernel
theorem zdL_23 : zdec 169 23 = some (.if_icmp .gt 805, 3) := by decide +kernel
theorem zdL_26 : zdec 169 26 = some (.aload_n 0, 1) := by decide +kernel
theorem zdL_27 : zdec 169 27 = some (.iload_n 3, 1) := by decide +kernel
theorem zdL_28 : zdec 169 28 = some (.iaload, 1) := by decide +kernel
theorem zdL_29 : zdec 169 29 = some (.bipush 31, 2) := by decide +kernel
theorem zdL_31 : zdec 169 31 = some (.iand, 1) := by decide +kernel
theorem zdL_136 : zdec 169 136 = some (.aload_n 1, 1) := by decide +kernel
theorem zdL_137 : zdec 169 137 = some (.aload_n 0, 1) := by decide +kernel
theorem zdL_138 : zdec 169 138 = some (.iload_n 3, 1) := by decide +kernel
theorem zdL_139 : zdec 169 139 = some (.iconst 1, 1) := by decide +kernel
theorem zdL_140 : zdec 169 140 = some (.iadd, 1) := by decide +kernel
theorem zdL_141 : zdec 169 141 = some (.iaload, 1) := by decide +kernel
theorem zdL_142 : zdec 169 142 = some (.invokevirtual 13, 3) := by decide +kernel
theorem zdL_145 : zdec 169 145 = some (.aload_n 2, 1) := by decide +kernel
theorem zdL_146 : zdec 169 146 = some (.aload_n 0, 1) := by decide +kernel
theorem zdL_147 : zdec 169 147 = some (.iload_n 3, 1) := by decide +kernel
theorem zdL_148 : zdec 169 148 = some (.iconst 1, 1) := by decide +kernel
theorem zdL_149 : zdec 169 149 = some (.iadd, 1) := by decide +kernel
theorem zdL_150 : zdec 169 150 = some (.iaload, 1) := by decide +kernel
theorem zdL_151 : zdec 169 151 = some (.invokevirtual 17, 3) := by decide +kernel
theorem zdL_154 : zdec 169 154 = some (.if_icmp .eq 668, 3) := by decide +kernel
theorem zdL_159 : zdec 169 159 = some (.aload_n 1, 1) := by decide +kernel
theorem zdL_160 : zdec 169 160 = some (.aload_n 0, 1) := by decide +kernel
theorem zdL_161 : zdec 169 161 = some (.iload_n 3, 1) := by decide +kernel
theorem zdL_162 : zdec 169 162 = some (.iconst 1, 1) := by decide +kernel
theorem zdL_163 : zdec 169 163 = some (.iadd, 1) := by decide +kernel
theorem zdL_164 : zdec 169 164 = some (.iaload, 1) := by decide +kernel
theorem zdL_165 : zdec 169 165 = some (.aload_n 0, 1) := by decide +kernel
theorem zdL_166 : zdec 169 166 = some (.iload_n 3, 1) := by decide +kernel
theorem zdL_167 : zdec 169 167 = some (.iconst 2, 1) := by decide +kernel
theorem zdL_168 : zdec 169 168 = some (.iadd, 1) := by decide +kernel
theorem zdL_169 : zdec 169 169 = some (.iaload, 1) := by decide +kernel
theorem zdL_170 : zdec 169 170 = some (.aload_n 0, 1) := by decide +kernel
theorem zdL_171 : zdec 169 171 = some (.iload_n 3, 1) := by decide +kernel
theorem zdL_172 : zdec 169 172 = some (.iconst 3, 1) := by decide +kernel
theorem zdL_173 : zdec 169 173 = some (.iadd, 1) := by decide +kernel
theorem zdL_174 : zdec 169 174 = some (.iaload, 1) := by decide +kernel
theorem zdL_175 : zdec 169 175 = some (.aload_n 0, 1) := by decide +kernel
theorem zdL_176 : zdec 169 176 = some (.iload_n 3, 1) := by decide +kernel
theorem zdL_177 : zdec 169 177 = some (.iconst 4, 1) := by decide +kernel
theorem zdL_178 : zdec 169 178 = some (.iadd, 1) := by decide +kernel
theorem zdL_179 : zdec 169 179 = some (.iaload, 1) := by decide +kernel
theorem zdL_180 : zdec 169 180 = some (.invokevirtual 18, 3) := by decide +kernel
theorem zdL_183 : zdec 169 183 = some (.aload_n 2, 1) := by decide +kernel
theorem zdL_184 : zdec 169 184 = some (.aload_n 0, 1) := by decide +kernel
theorem zdL_185 : zdec 169 185 = some (.iload_n 3, 1) := by decide +kernel
theorem zdL_186 : zdec 169 186 = some (.iconst 1, 1) := by decide +kernel
theorem zdL_187 : zdec 169 187 = some (.iadd, 1) := by decide +kernel
theorem zdL_188 : zdec 169 188 = some (.iaload, 1) := by decide +kernel
theorem zdL_189 : zdec 169 189 = some (.aload_n 0, 1) := by decide +kernel
theorem zdL_190 : zdec 169 190 = some (.iload_n 3, 1) := by decide +kernel
theorem zdL_191 : zdec 169 191 = some (.iconst 2, 1) := by decide +kernel
theorem zdL_192 : zdec 169 192 = some (.iadd, 1) := by decide +kernel
theorem zdL_193 : zdec 169 193 = some (.iaload, 1) := by decide +kernel
theorem zdL_194 : zdec 169 194 = some (.aload_n 0, 1) := by decide +kernel
theorem zdL_195 : zdec 169 195 = some (.iload_n 3, 1) := by decide +kernel
theorem zdL_196 : zdec 169 196 = some (.iconst 3, 1) := by decide +kernel
theorem zdL_197 : zdec 169 197 = some (.iadd, 1) := by decide +kernel
theorem zdL_198 : zdec 169 198 = some (.iaload, 1) := by decide +kernel
theorem zdL_199 : zdec 169 199 = some (.aload_n 0, 1) := by decide +kernel
theorem zdL_200 : zdec 169 200 = some (.iload_n 3, 1) := by decide +kernel
theorem zdL_201 : zdec 169 201 = some (.iconst 4, 1) := by decide +kernel
theorem zdL_202 : zdec 169 202 = some (.iadd, 1) := by decide +kernel
theorem zdL_203 : zdec 169 203 = some (.iaload, 1) := by decide +kernel
theorem zdL_204 : zdec 169 204 = some (.invokevirtual 22, 3) := by decide +kernel
theorem zdL_207 : zdec 169 207 = some (.if_icmp .eq 615, 3) := by decide +kernel
theorem zdL_212 : zdec 169 212 = some (.aload_n 1, 1) := by decide +kernel
theorem zdL_213 : zdec 169 213 = some (.aload_n 0, 1) := by decide +kernel
theorem zdL_214 : zdec 169 214 = some (.iload_n 3, 1) := by decide +kernel
theorem zdL_215 : zdec 169 215 = some (.iconst 1, 1) := by decide +kernel
theorem zdL_216 : zdec 169 216 = some (.iadd, 1) := by decide +kernel
theorem zdL_217 : zdec 169 217 = some (.iaload, 1) := by decide +kernel
theorem zdL_218 : zdec 169 218 = some (.aload_n 0, 1) := by decide +kernel
theorem zdL_219 : zdec 169 219 = some (.iload_n 3, 1) := by decide +kernel
theorem zdL_220 : zdec 169 220 = some (.iconst 2, 1) := by decide +kernel
theorem zdL_221 : zdec 169 221 = some (.iadd, 1) := by decide +kernel
theorem zdL_222 : zdec 169 222 = some (.iaload, 1) := by decide +kernel
theorem zdL_223 : zdec 169 223 = some (.invokevirtual 23, 3) := by decide +kernel
theorem zdL_226 : zdec 169 226 = some (.aload_n 2, 1) := by decide +kernel
theorem zdL_227 : zdec 169 227 = some (.aload_n 0, 1) := by decide +kernel
theorem zdL_228 : zdec 169 228 = some (.iload_n 3, 1) := by decide +kernel
theorem zdL_229 : zdec 169 229 = some (.iconst 1, 1) := by decide +kernel
theorem zdL_230 : zdec 169 230 = some (.iadd, 1) := by decide +kernel
theorem zdL_231 : zdec 169 231 = some (.iaload, 1) := by decide +kernel
theorem zdL_232 : zdec 169 232 = some (.aload_n 0, 1) := by decide +kernel
theorem zdL_233 : zdec 169 233 = some (.iload_n 3, 1) := by decide +kernel
theorem zdL_234 : zdec 169 234 = some (.iconst 2, 1) := by decide +kernel
theorem zdL_235 : zdec 169 235 = some (.iadd, 1) := by decide +kernel
theorem zdL_236 : zdec 169 236 = some (.iaload, 1) := by decide +kernel
theorem zdL_237 : zdec 169 237 = some (.invokevirtual 27, 3) := by decide +kernel
theorem zdL_240 : zdec 169 240 = some (.if_icmp .eq 582, 3) := by decide +kernel
theorem zdL_245 : zdec 169 245 = some (.aload_n 1, 1) := by decide +kernel
theorem zdL_246 : zdec 169 246 = some (.invokevirtual 28, 3) := by decide +kernel
theorem zdL_249 : zdec 169 249 = some (.aload_n 2, 1) := by decide +kernel
theorem zdL_250 : zdec 169 250 = some (.invokevirtual 32, 3) := by decide +kernel
theorem zdL_253 : zdec 169 253 = some (.if_icmp .eq 569, 3) := by decide +kernel
theorem zdL_258 : zdec 169 258 = some (.aload_n 1, 1) := by decide +kernel
theorem zdL_259 : zdec 169 259 = some (.aload_n 0, 1) := by decide +kernel
theorem zdL_260 : zdec 169 260 = some (.iload_n 3, 1) := by decide +kernel
theorem zdL_261 : zdec 169 261 = some (.iconst 1, 1) := by decide +kernel
theorem zdL_262 : zdec 169 262 = some (.iadd, 1) := by decide +kernel
theorem zdL_263 : zdec 169 263 = some (.iaload, 1) := by decide +kernel
theorem zdL_264 : zdec 169 264 = some (.aload_n 0, 1) := by decide +kernel
theorem zdL_265 : zdec 169 265 = some (.iload_n 3, 1) := by decide +kernel
theorem zdL_266 : zdec 169 266 = some (.iconst 2, 1) := by decide +kernel
theorem zdL_267 : zdec 169 267 = some (.iadd, 1) := by decide +kernel
theorem zdL_268 : zdec 169 268 = some (.iaload, 1) := by decide +kernel
theorem zdL_269 : zdec 169 269 = some (.invokevirtual 33, 3) := by decide +kernel
theorem zdL_272 : zdec 169 272 = some (.aload_n 2, 1) := by decide +kernel
theorem zdL_273 : zdec 169 273 = some (.aload_n 0, 1) := by decide +kernel
theorem zdL_274 : zdec 169 274 = some (.iload_n 3, 1) := by decide +kernel
theorem zdL_275 : zdec 169 275 = some (.iconst 1, 1) := by decide +kernel
theorem zdL_276 : zdec 169 276 = some (.iadd, 1) := by decide +kernel
theorem zdL_277 : zdec 169 277 = some (.iaload, 1) := by decide +kernel
theorem zdL_278 : zdec 169 278 = some (.aload_n 0, 1) := by decide +kernel
theorem zdL_279 : zdec 169 279 = some (.iload_n 3, 1) := by decide +kernel
theorem zdL_280 : zdec 169 280 = some (.iconst 2, 1) := by decide +kernel
theorem zdL_281 : zdec 169 281 = some (.iadd, 1) := by decide +kernel
theorem zdL_282 : zdec 169 282 = some (.iaload, 1) := by decide +kernel
theorem zdL_283 : zdec 169 283 = some (.invokevirtual 36, 3) := by decide +kernel
theorem zdL_286 : zdec 169 286 = some (.if_icmp .eq 536, 3) := by decide +kernel
theorem zdL_291 : zdec 169 291 = some (.aload_n 1, 1) := by decide +kernel
theorem zdL_292 : zdec 169 292 = some (.aload_n 0, 1) := by decide +kernel
theorem zdL_293 : zdec 169 293 = some (.iload_n 3, 1) := by decide +kernel
theorem zdL_294 : zdec 169 294 = some (.iconst 1, 1) := by decide +kernel
theorem zdL_295 : zdec 169 295 = some (.iadd, 1) := by decide +kernel
theorem zdL_296 : zdec 169 296 = some (.iaload, 1) := by decide +kernel
theorem zdL_297 : zdec 169 297 = some (.invokevirtual 37, 3) := by decide +kernel
theorem zdL_300 : zdec 169 300 = some (.aload_n 2, 1) := by decide +kernel
theorem zdL_301 : zdec 169 301 = some (.aload_n 0, 1) := by decide +kernel
theorem zdL_302 : zdec 169 302 = some (.iload_n 3, 1) := by decide +kernel
theorem zdL_303 : zdec 169 303 = some (.iconst 1, 1) := by decide +kernel
theorem zdL_304 : zdec 169 304 = some (.iadd, 1) := by decide +kernel
theorem zdL_305 : zdec 169 305 = some (.iaload, 1) := by decide +kernel
theorem zdL_306 : zdec 169 306 = some (.invokevirtual 40, 3) := by decide +kernel
theorem zdL_309 : zdec 169 309 = some (.if_icmp .eq 513, 3) := by decide +kernel
theorem zdL_314 : zdec 169 314 = some (.aload_n 1, 1) := by decide +kernel
theorem zdL_315 : zdec 169 315 = some (.aload_n 0, 1) := by decide +kernel
theorem zdL_316 : zdec 169 316 = some (.iload_n 3, 1) := by decide +kernel
theorem zdL_317 : zdec 169 317 = some (.iconst 1, 1) := by decide +kernel
theorem zdL_318 : zdec 169 318 = some (.iadd, 1) := by decide +kernel
theorem zdL_319 : zdec 169 319 = some (.iaload, 1) := by decide +kernel
theorem zdL_320 : zdec 169 320 = some (.aload_n 0, 1) := by decide +kernel
theorem zdL_321 : zdec 169 321 = some (.iload_n 3, 1) := by decide +kernel
theorem zdL_322 : zdec 169 322 = some (.iconst 2, 1) := by decide +kernel
theorem zdL_323 : zdec 169 323 = some (.iadd, 1) := by decide +kernel
theorem zdL_324 : zdec 169 324 = some (.iaload, 1) := by decide +kernel
theorem zdL_325 : zdec 169 325 = some (.invokevirtual 41, 3) := by decide +kernel
theorem zdL_328 : zdec 169 328 = some (.aload_n 2, 1) := by decide +kernel
theorem zdL_329 : zdec 169 329 = some (.aload_n 0, 1) := by decide +kernel
theorem zdL_330 : zdec 169 330 = some (.iload_n 3, 1) := by decide +kernel
theorem zdL_331 : zdec 169 331 = some (.iconst 1, 1) := by decide +kernel
theorem zdL_332 : zdec 169 332 = some (.iadd, 1) := by decide +kernel
theorem zdL_333 : zdec 169 333 = some (.iaload, 1) := by decide +kernel
theorem zdL_334 : zdec 169 334 = some (.aload_n 0, 1) := by decide +kernel
theorem zdL_335 : zdec 169 335 = some (.iload_n 3, 1) := by decide +kernel
theorem zdL_336 : zdec 169 336 = some (.iconst 2, 1) := by decide +kernel
theorem zdL_337 : zdec 169 337 = some (.iadd, 1) := by decide +kernel
theorem zdL_338 : zdec 169 338 = some (.iaload, 1) := by decide +kernel
theorem zdL_339 : zdec 169 339 = some (.invokevirtual 44, 3) := by decide +kernel
theorem zdL_342 : zdec 169 342 = some (.if_icmp .eq 480, 3) := by decide +kernel
theorem zdL_347 : zdec 169 347 = some (.aload_n 1, 1) := by decide +kernel
theorem zdL_348 : zdec 169 348 = some (.aload_n 0, 1) := by decide +kernel
theorem zdL_349 : zdec 169 349 = some (.iload_n 3, 1) := by decide +kernel
theorem zdL_350 : zdec 169 350 = some (.iconst 1, 1) := by decide +kernel
theorem zdL_351 : zdec 169 351 = some (.iadd, 1) := by decide +kernel
theorem zdL_352 : zdec 169 352 = some (.iaload, 1) := by decide +kernel
theorem zdL_353 : zdec 169 353 = some (.aload_n 0, 1) := by decide +kernel
theorem zdL_354 : zdec 169 354 = some (.iload_n 3, 1) := by decide +kernel
theorem zdL_355 : zdec 169 355 = some (.iconst 2, 1) := by decide +kernel
theorem zdL_356 : zdec 169 356 = some (.iadd, 1) := by decide +kernel
theorem zdL_357 : zdec 169 357 = some (.iaload, 1) := by decide +kernel
theorem zdL_358 : zdec 169 358 = some (.invokevirtual 45, 3) := by decide +kernel
theorem zdL_361 : zdec 169 361 = some (.aload_n 2, 1) := by decide +kernel
theorem zdL_362 : zdec 169 362 = some (.aload_n 0, 1) := by decide +kernel
theorem zdL_363 : zdec 169 363 = some (.iload_n 3, 1) := by decide +kernel
theorem zdL_364 : zdec 169 364 = some (.iconst 1, 1) := by decide +kernel
theorem zdL_365 : zdec 169 365 = some (.iadd, 1) := by decide +kernel
theorem zdL_366 : zdec 169 366 = some (.iaload, 1) := by decide +kernel
theorem zdL_367 : zdec 169 367 = some (.aload_n 0, 1) := by decide +kernel
theorem zdL_368 : zdec 169 368 = some (.iload_n 3, 1) := by decide +kernel
theorem zdL_369 : zdec 169 369 = some (.iconst 2, 1) := by decide +kernel
theorem zdL_370 : zdec 169 370 = some (.iadd, 1) := by decide +kernel
theorem zdL_371 : zdec 169 371 = some (.iaload, 1) := by decide +kernel
theorem zdL_372 : zdec 169 372 = some (.invokevirtual 48, 3) := by decide +kernel
theorem zdL_375 : zdec 169 375 = some (.if_icmp .eq 447, 3) := by decide +kernel
theorem zdL_380 : zdec 169 380 = some (.aload_n 1, 1) := by decide +kernel
theorem zdL_381 : zdec 169 381 = some (.aload_n 0, 1) := by decide +kernel
theorem zdL_382 : zdec 169 382 = some (.iload_n 3, 1) := by decide +kernel
theorem zdL_383 : zdec 169 383 = some (.iconst 1, 1) := by decide +kernel
theorem zdL_384 : zdec 169 384 = some (.iadd, 1) := by decide +kernel
theorem zdL_385 : zdec 169 385 = some (.iaload, 1) := by decide +kernel
theorem zdL_386 : zdec 169 386 = some (.aload_n 0, 1) := by decide +kernel
theorem zdL_387 : zdec 169 387 = some (.iload_n 3, 1) := by decide +kernel
theorem zdL_388 : zdec 169 388 = some (.iconst 2, 1) := by decide +kernel
theorem zdL_389 : zdec 169 389 = some (.iadd, 1) := by decide +kernel
theorem zdL_390 : zdec 169 390 = some (.iaload, 1) := by decide +kernel
theorem zdL_391 : zdec 169 391 = some (.invokevirtual 49, 3) := by decide +kernel
theorem zdL_394 : zdec 169 394 = some (.aload_n 2, 1) := by decide +kernel
theorem zdL_395 : zdec 169 395 = some (.aload_n 0, 1) := by decide +kernel
theorem zdL_396 : zdec 169 396 = some (.iload_n 3, 1) := by decide +kernel
theorem zdL_397 : zdec 169 397 = some (.iconst 1, 1) := by decide +kernel
theorem zdL_398 : zdec 169 398 = some (.iadd, 1) := by decide +kernel
theorem zdL_399 : zdec 169 399 = some (.iaload, 1) := by decide +kernel
theorem zdL_400 : zdec 169 400 = some (.aload_n 0, 1) := by decide +kernel
theorem zdL_401 : zdec 169 401 = some (.iload_n 3, 1) := by decide +kernel
theorem zdL_402 : zdec 169 402 = some (.iconst 2, 1) := by decide +kernel
theorem zdL_403 : zdec 169 403 = some (.iadd, 1) := by decide +kernel
theorem zdL_404 : zdec 169 404 = some (.iaload, 1) := by decide +kernel
theorem zdL_405 : zdec 169 405 = some (.invokevirtual 52, 3) := by decide +kernel
theorem zdL_408 : zdec 169 408 = some (.if_icmp .eq 414, 3) := by decide +kernel
theorem zdL_413 : zdec 169 413 = some (.aload_n 1, 1) := by decide +kernel
theorem zdL_414 : zdec 169 414 = some (.aload_n 0, 1) := by decide +kernel
theorem zdL_415 : zdec 169 415 = some (.iload_n 3, 1) := by decide +kernel
theorem zdL_416 : zdec 169 416 = some (.iconst 1, 1) := by decide +kernel
theorem zdL_417 : zdec 169 417 = some (.iadd, 1) := by decide +kernel
theorem zdL_418 : zdec 169 418 = some (.iaload, 1) := by decide +kernel
theorem zdL_419 : zdec 169 419 = some (.aload_n 0, 1) := by decide +kernel
theorem zdL_420 : zdec 169 420 = some (.iload_n 3, 1) := by decide +kernel
theorem zdL_421 : zdec 169 421 = some (.iconst 2, 1) := by decide +kernel
theorem zdL_422 : zdec 169 422 = some (.iadd, 1) := by decide +kernel
theorem zdL_423 : zdec 169 423 = some (.iaload, 1) := by decide +kernel
theorem zdL_424 : zdec 169 424 = some (.invokevirtual 53, 3) := by decide +kernel
theorem zdL_427 : zdec 169 427 = some (.aload_n 2, 1) := by decide +kernel
theorem zdL_428 : zdec 169 428 = some (.aload_n 0, 1) := by decide +kernel
theorem zdL_429 : zdec 169 429 = some (.iload_n 3, 1) := by decide +kernel
theorem zdL_430 : zdec 169 430 = some (.iconst 1, 1) := by decide +kernel
theorem zdL_431 : zdec 169 431 = some (.iadd, 1) := by decide +kernel
theorem zdL_432 : zdec 169 432 = some (.iaload, 1) := by decide +kernel
theorem zdL_433 : zdec 169 433 = some (.aload_n 0, 1) := by decide +kernel
theorem zdL_434 : zdec 169 434 = some (.iload_n 3, 1) := by decide +kernel
theorem zdL_435 : zdec 169 435 = some (.iconst 2, 1) := by decide +kernel
theorem zdL_436 : zdec 169 436 = some (.iadd, 1) := by decide +kernel
theorem zdL_437 : zdec 169 437 = some (.iaload, 1) := by decide +kernel
theorem zdL_438 : zdec 169 438 = some (.invokevirtual 56, 3) := by decide +kernel
theorem zdL_441 : zdec 169 441 = some (.if_icmp .eq 381, 3) := by decide +kernel
theorem zdL_446 : zdec 169 446 = some (.aload_n 1, 1) := by decide +kernel
theorem zdL_447 : zdec 169 447 = some (.aload_n 0, 1) := by decide +kernel
theorem zdL_448 : zdec 169 448 = some (.iload_n 3, 1) := by decide +kernel
theorem zdL_449 : zdec 169 449 = some (.iconst 1, 1) := by decide +kernel
theorem zdL_450 : zdec 169 450 = some (.iadd, 1) := by decide +kernel
theorem zdL_451 : zdec 169 451 = some (.iaload, 1) := by decide +kernel
theorem zdL_452 : zdec 169 452 = some (.aload_n 0, 1) := by decide +kernel
theorem zdL_453 : zdec 169 453 = some (.iload_n 3, 1) := by decide +kernel
theorem zdL_454 : zdec 169 454 = some (.iconst 2, 1) := by decide +kernel
theorem zdL_455 : zdec 169 455 = some (.iadd, 1) := by decide +kernel
theorem zdL_456 : zdec 169 456 = some (.iaload, 1) := by decide +kernel
theorem zdL_457 : zdec 169 457 = some (.aload_n 0, 1) := by decide +kernel
theorem zdL_458 : zdec 169 458 = some (.iload_n 3, 1) := by decide +kernel
theorem zdL_459 : zdec 169 459 = some (.iconst 3, 1) := by decide +kernel
theorem zdL_460 : zdec 169 460 = some (.iadd, 1) := by decide +kernel
theorem zdL_461 : zdec 169 461 = some (.iaload, 1) := by decide +kernel
theorem zdL_462 : zdec 169 462 = some (.aload_n 0, 1) := by decide +kernel
theorem zdL_463 : zdec 169 463 = some (.iload_n 3, 1) := by decide +kernel
theorem zdL_464 : zdec 169 464 = some (.iconst 4, 1) := by decide +kernel
theorem zdL_465 : zdec 169 465 = some (.iadd, 1) := by decide +kernel
theorem zdL_466 : zdec 169 466 = some (.iaload, 1) := by decide +kernel
theorem zdL_467 : zdec 169 467 = some (.invokevirtual 57, 3) := by decide +kernel
theorem zdL_470 : zdec 169 470 = some (.aload_n 2, 1) := by decide +kernel
theorem zdL_471 : zdec 169 471 = some (.aload_n 0, 1) := by decide +kernel
theorem zdL_472 : zdec 169 472 = some (.iload_n 3, 1) := by decide +kernel
theorem zdL_473 : zdec 169 473 = some (.iconst 1, 1) := by decide +kernel
theorem zdL_474 : zdec 169 474 = some (.iadd, 1) := by decide +kernel
theorem zdL_475 : zdec 169 475 = some (.iaload, 1) := by decide +kernel
theorem zdL_476 : zdec 169 476 = some (.aload_n 0, 1) := by decide +kernel
theorem zdL_477 : zdec 169 477 = some (.iload_n 3, 1) := by decide +kernel
theorem zdL_478 : zdec 169 478 = some (.iconst 2, 1) := by decide +kernel
theorem zdL_479 : zdec 169 479 = some (.iadd, 1) := by decide +kernel
theorem zdL_480 : zdec 169 480 = some (.iaload, 1) := by decide +kernel
theorem zdL_481 : zdec 169 481 = some (.aload_n 0, 1) := by decide +kernel
theorem zdL_482 : zdec 169 482 = some (.iload_n 3, 1) := by decide +kernel
theorem zdL_483 : zdec 169 483 = some (.iconst 3, 1) := by decide +kernel
theorem zdL_484 : zdec 169 484 = some (.iadd, 1) := by decide +kernel
theorem zdL_485 : zdec 169 485 = some (.iaload, 1) := by decide +kernel
theorem zdL_486 : zdec 169 486 = some (.aload_n 0, 1) := by decide +kernel
theorem zdL_487 : zdec 169 487 = some (.iload_n 3, 1) := by decide +kernel
theorem zdL_488 : zdec 169 488 = some (.iconst 4, 1) := by decide +kernel
theorem zdL_489 : zdec 169 489 = some (.iadd, 1) := by decide +kernel
theorem zdL_490 : zdec 169 490 = some (.iaload, 1) := by decide +kernel
theorem zdL_491 : zdec 169 491 = some (.invokevirtual 60, 3) := by decide +kernel
theorem zdL_494 : zdec 169 494 = some (.if_icmp .eq 328, 3) := by decide +kernel
theorem zdL_499 : zdec 169 499 = some (.aload_n 1, 1) := by decide +kernel
theorem zdL_500 : zdec 169 500 = some (.aload_n 0, 1) := by decide +kernel
theorem zdL_501 : zdec 169 501 = some (.iload_n 3, 1) := by decide +kernel
theorem zdL_502 : zdec 169 502 = some (.iconst 1, 1) := by decide +kernel
theorem zdL_503 : zdec 169 503 = some (.iadd, 1) := by decide +kernel
theorem zdL_504 : zdec 169 504 = some (.iaload, 1) := by decide +kernel
theorem zdL_505 : zdec 169 505 = some (.invokevirtual 61, 3) := by decide +kernel
theorem zdL_508 : zdec 169 508 = some (.aload_n 2, 1) := by decide +kernel
theorem zdL_509 : zdec 169 509 = some (.aload_n 0, 1) := by decide +kernel
theorem zdL_510 : zdec 169 510 = some (.iload_n 3, 1) := by decide +kernel
theorem zdL_511 : zdec 169 511 = some (.iconst 1, 1) := by decide +kernel
theorem zdL_512 : zdec 169 512 = some (.iadd, 1) := by decide +kernel
theorem zdL_513 : zdec 169 513 = some (.iaload, 1) := by decide +kernel
theorem zdL_514 : zdec 169 514 = some (.invokevirtual 64, 3) := by decide +kernel
theorem zdL_517 : zdec 169 517 = some (.if_icmp .eq 305, 3) := by decide +kernel
theorem zdL_522 : zdec 169 522 = some (.aload_n 1, 1) := by decide +kernel
theorem zdL_523 : zdec 169 523 = some (.aload_n 0, 1) := by decide +kernel
theorem zdL_524 : zdec 169 524 = some (.iload_n 3, 1) := by decide +kernel
theorem zdL_525 : zdec 169 525 = some (.iconst 1, 1) := by decide +kernel
theorem zdL_526 : zdec 169 526 = some (.iadd, 1) := by decide +kernel
theorem zdL_527 : zdec 169 527 = some (.iaload, 1) := by decide +kernel
theorem zdL_528 : zdec 169 528 = some (.invokevirtual 65, 3) := by decide +kernel
theorem zdL_531 : zdec 169 531 = some (.aload_n 2, 1) := by decide +kernel
theorem zdL_532 : zdec 169 532 = some (.aload_n 0, 1) := by decide +kernel
theorem zdL_533 : zdec 169 533 = some (.iload_n 3, 1) := by decide +kernel
theorem zdL_534 : zdec 169 534 = some (.iconst 1, 1) := by decide +kernel
theorem zdL_535 : zdec 169 535 = some (.iadd, 1) := by decide +kernel
theorem zdL_536 : zdec 169 536 = some (.iaload, 1) := by decide +kernel
theorem zdL_537 : zdec 169 537 = some (.invokevirtual 68, 3) := by decide +kernel
theorem zdL_540 : zdec 169 540 = some (.if_icmp .eq 282, 3) := by decide +kernel
theorem zdL_545 : zdec 169 545 = some (.aload_n 1, 1) := by decide +kernel
theorem zdL_546 : zdec 169 546 = some (.aload_n 0, 1) := by decide +kernel
theorem zdL_547 : zdec 169 547 = some (.iload_n 3, 1) := by decide +kernel
theorem zdL_548 : zdec 169 548 = some (.iconst 1, 1) := by decide +kernel
theorem zdL_549 : zdec 169 549 = some (.iadd, 1) := by decide +kernel
theorem zdL_550 : zdec 169 550 = some (.iaload, 1) := by decide +kernel
theorem zdL_551 : zdec 169 551 = some (.invokevirtual 69, 3) := by decide +kernel
theorem zdL_554 : zdec 169 554 = some (.aload_n 2, 1) := by decide +kernel
theorem zdL_555 : zdec 169 555 = some (.aload_n 0, 1) := by decide +kernel
theorem zdL_556 : zdec 169 556 = some (.iload_n 3, 1) := by decide +kernel
theorem zdL_557 : zdec 169 557 = some (.iconst 1, 1) := by decide +kernel
theorem zdL_558 : zdec 169 558 = some (.iadd, 1) := by decide +kernel
theorem zdL_559 : zdec 169 559 = some (.iaload, 1) := by decide +kernel
theorem zdL_560 : zdec 169 560 = some (.invokevirtual 72, 3) := by decide +kernel
theorem zdL_563 : zdec 169 563 = some (.if_icmp .eq 259, 3) := by decide +kernel
theorem zdL_568 : zdec 169 568 = some (.aload_n 1, 1) := by decide +kernel
theorem zdL_569 : zdec 169 569 = some (.aload_n 0, 1) := by decide +kernel
theorem zdL_570 : zdec 169 570 = some (.iload_n 3, 1) := by decide +kernel
theorem zdL_571 : zdec 169 571 = some (.iconst 1, 1) := by decide +kernel
theorem zdL_572 : zdec 169 572 = some (.iadd, 1) := by decide +kernel
theorem zdL_573 : zdec 169 573 = some (.iaload, 1) := by decide +kernel
theorem zdL_574 : zdec 169 574 = some (.aload_n 0, 1) := by decide +kernel
theorem zdL_575 : zdec 169 575 = some (.iload_n 3, 1) := by decide +kernel
theorem zdL_576 : zdec 169 576 = some (.iconst 2, 1) := by decide +kernel
theorem zdL_577 : zdec 169 577 = some (.iadd, 1) := by decide +kernel
theorem zdL_578 : zdec 169 578 = some (.iaload, 1) := by decide +kernel
theorem zdL_579 : zdec 169 579 = some (.invokevirtual 73, 3) := by decide +kernel
theorem zdL_582 : zdec 169 582 = some (.aload_n 2, 1) := by decide +kernel
theorem zdL_583 : zdec 169 583 = some (.aload_n 0, 1) := by decide +kernel
theorem zdL_584 : zdec 169 584 = some (.iload_n 3, 1) := by decide +kernel
theorem zdL_585 : zdec 169 585 = some (.iconst 1, 1) := by decide +kernel
theorem zdL_586 : zdec 169 586 = some (.iadd, 1) := by decide +kernel
theorem zdL_587 : zdec 169 587 = some (.iaload, 1) := by decide +kernel
theorem zdL_588 : zdec 169 588 = some (.aload_n 0, 1) := by decide +kernel
theorem zdL_589 : zdec 169 589 = some (.iload_n 3, 1) := by decide +kernel
theorem zdL_590 : zdec 169 590 = some (.iconst 2, 1) := by decide +kernel
theorem zdL_591 : zdec 169 591 = some (.iadd, 1) := by decide +kernel
theorem zdL_592 : zdec 169 592 = some (.iaload, 1) := by decide +kernel
theorem zdL_593 : zdec 169 593 = some (.invokevirtual 76, 3) := by decide +kernel
theorem zdL_596 : zdec 169 596 = some (.if_icmp .eq 226, 3) := by decide +kernel
theorem zdL_601 : zdec 169 601 = some (.aload_n 1, 1) := by decide +kernel
theorem zdL_602 : zdec 169 602 = some (.aload_n 0, 1) := by decide +kernel
theorem zdL_603 : zdec 169 603 = some (.iload_n 3, 1) := by decide +kernel
theorem zdL_604 : zdec 169 604 = some (.iconst 1, 1) := by decide +kernel
theorem zdL_605 : zdec 169 605 = some (.iadd, 1) := by decide +kernel
theorem zdL_606 : zdec 169 606 = some (.iaload, 1) := by decide +kernel
theorem zdL_607 : zdec 169 607 = some (.aload_n 0, 1) := by decide +kernel
theorem zdL_608 : zdec 169 608 = some (.iload_n 3, 1) := by decide +kernel
theorem zdL_609 : zdec 169 609 = some (.iconst 2, 1) := by decide +kernel
theorem zdL_610 : zdec 169 610 = some (.iadd, 1) := by decide +kernel
theorem zdL_611 : zdec 169 611 = some (.iaload, 1) := by decide +kernel
theorem zdL_612 : zdec 169 612 = some (.aload_n 0, 1) := by decide +kernel
theorem zdL_613 : zdec 169 613 = some (.iload_n 3, 1) := by decide +kernel
theorem zdL_614 : zdec 169 614 = some (.iconst 3, 1) := by decide +kernel
theorem zdL_615 : zdec 169 615 = some (.iadd, 1) := by decide +kernel
theorem zdL_616 : zdec 169 616 = some (.iaload, 1) := by decide +kernel
theorem zdL_617 : zdec 169 617 = some (.invokevirtual 77, 3) := by decide +kernel
theorem zdL_620 : zdec 169 620 = some (.aload_n 2, 1) := by decide +kernel
theorem zdL_621 : zdec 169 621 = some (.aload_n 0, 1) := by decide +kernel
theorem zdL_622 : zdec 169 622 = some (.iload_n 3, 1) := by decide +kernel
theorem zdL_623 : zdec 169 623 = some (.iconst 1, 1) := by decide +kernel
theorem zdL_624 : zdec 169 624 = some (.iadd, 1) := by decide +kernel
theorem zdL_625 : zdec 169 625 = some (.iaload, 1) := by decide +kernel
theorem zdL_626 : zdec 169 626 = some (.aload_n 0, 1) := by decide +kernel
theorem zdL_627 : zdec 169 627 = some (.iload_n 3, 1) := by decide +kernel
theorem zdL_628 : zdec 169 628 = some (.iconst 2, 1) := by decide +kernel
theorem zdL_629 : zdec 169 629 = some (.iadd, 1) := by decide +kernel
theorem zdL_630 : zdec 169 630 = some (.iaload, 1) := by decide +kernel
theorem zdL_631 : zdec 169 631 = some (.aload_n 0, 1) := by decide +kernel
theorem zdL_632 : zdec 169 632 = some (.iload_n 3, 1) := by decide +kernel
theorem zdL_633 : zdec 169 633 = some (.iconst 3, 1) := by decide +kernel
theorem zdL_634 : zdec 169 634 = some (.iadd, 1) := by decide +kernel
theorem zdL_635 : zdec 169 635 = some (.iaload, 1) := by decide +kernel
theorem zdL_636 : zdec 169 636 = some (.invokevirtual 81, 3) := by decide +kernel
theorem zdL_639 : zdec 169 639 = some (.if_icmp .eq 183, 3) := by decide +kernel
theorem zdL_644 : zdec 169 644 = some (.aload_n 1, 1) := by decide +kernel
theorem zdL_645 : zdec 169 645 = some (.aload_n 0, 1) := by decide +kernel
theorem zdL_646 : zdec 169 646 = some (.iload_n 3, 1) := by decide +kernel
theorem zdL_647 : zdec 169 647 = some (.iconst 1, 1) := by decide +kernel
theorem zdL_648 : zdec 169 648 = some (.iadd, 1) := by decide +kernel
theorem zdL_649 : zdec 169 649 = some (.iaload, 1) := by decide +kernel
theorem zdL_650 : zdec 169 650 = some (.aload_n 0, 1) := by decide +kernel
theorem zdL_651 : zdec 169 651 = some (.iload_n 3, 1) := by decide +kernel
theorem zdL_652 : zdec 169 652 = some (.iconst 2, 1) := by decide +kernel
theorem zdL_653 : zdec 169 653 = some (.iadd, 1) := by decide +kernel
theorem zdL_654 : zdec 169 654 = some (.iaload, 1) := by decide +kernel
theorem zdL_655 : zdec 169 655 = some (.aload_n 0, 1) := by decide +kernel
theorem zdL_656 : zdec 169 656 = some (.iload_n 3, 1) := by decide +kernel
theorem zdL_657 : zdec 169 657 = some (.iconst 3, 1) := by decide +kernel
theorem zdL_658 : zdec 169 658 = some (.iadd, 1) := by decide +kernel
theorem zdL_659 : zdec 169 659 = some (.iaload, 1) := by decide +kernel
theorem zdL_660 : zdec 169 660 = some (.invokevirtual 82, 3) := by decide +kernel
theorem zdL_663 : zdec 169 663 = some (.aload_n 2, 1) := by decide +kernel
theorem zdL_664 : zdec 169 664 = some (.aload_n 0, 1) := by decide +kernel
theorem zdL_665 : zdec 169 665 = some (.iload_n 3, 1) := by decide +kernel
theorem zdL_666 : zdec 169 666 = some (.iconst 1, 1) := by decide +kernel
theorem zdL_667 : zdec 169 667 = some (.iadd, 1) := by decide +kernel
theorem zdL_668 : zdec 169 668 = some (.iaload, 1) := by decide +kernel
theorem zdL_669 : zdec 169 669 = some (.aload_n 0, 1) := by decide +kernel
theorem zdL_670 : zdec 169 670 = some (.iload_n 3, 1) := by decide +kernel
theorem zdL_671 : zdec 169 671 = some (.iconst 2, 1) := by decide +kernel
theorem zdL_672 : zdec 169 672 = some (.iadd, 1) := by decide +kernel
theorem zdL_673 : zdec 169 673 = some (.iaload, 1) := by decide +kernel
theorem zdL_674 : zdec 169 674 = some (.aload_n 0, 1) := by decide +kernel
theorem zdL_675 : zdec 169 675 = some (.iload_n 3, 1) := by decide +kernel
theorem zdL_676 : zdec 169 676 = some (.iconst 3, 1) := by decide +kernel
theorem zdL_677 : zdec 169 677 = some (.iadd, 1) := by decide +kernel
theorem zdL_678 : zdec 169 678 = some (.iaload, 1) := by decide +kernel
theorem zdL_679 : zdec 169 679 = some (.invokevirtual 85, 3) := by decide +kernel
theorem zdL_682 : zdec 169 682 = some (.if_icmp .eq 140, 3) := by decide +kernel
theorem zdL_687 : zdec 169 687 = some (.aload_n 1, 1) := by decide +kernel
theorem zdL_688 : zdec 169 688 = some (.aload_n 0, 1) := by decide +kernel
theorem zdL_689 : zdec 169 689 = some (.iload_n 3, 1) := by decide +kernel
theorem zdL_690 : zdec 169 690 = some (.iconst 1, 1) := by decide +kernel
theorem zdL_691 : zdec 169 691 = some (.iadd, 1) := by decide +kernel
theorem zdL_692 : zdec 169 692 = some (.iaload, 1) := by decide +kernel
theorem zdL_693 : zdec 169 693 = some (.aload_n 0, 1) := by decide +kernel
theorem zdL_694 : zdec 169 694 = some (.iload_n 3, 1) := by decide +kernel
theorem zdL_695 : zdec 169 695 = some (.iconst 2, 1) := by decide +kernel
theorem zdL_696 : zdec 169 696 = some (.iadd, 1) := by decide +kernel
theorem zdL_697 : zdec 169 697 = some (.iaload, 1) := by decide +kernel
theorem zdL_698 : zdec 169 698 = some (.invokevirtual 86, 3) := by decide +kernel
theorem zdL_701 : zdec 169 701 = some (.aload_n 2, 1) := by decide +kernel
theorem zdL_702 : zdec 169 702 = some (.aload_n 0, 1) := by decide +kernel
theorem zdL_703 : zdec 169 703 = some (.iload_n 3, 1) := by decide +kernel
theorem zdL_704 : zdec 169 704 = some (.iconst 1, 1) := by decide +kernel
theorem zdL_705 : zdec 169 705 = some (.iadd, 1) := by decide +kernel
theorem zdL_706 : zdec 169 706 = some (.iaload, 1) := by decide +kernel
theorem zdL_707 : zdec 169 707 = some (.aload_n 0, 1) := by decide +kernel
theorem zdL_708 : zdec 169 708 = some (.iload_n 3, 1) := by decide +kernel
theorem zdL_709 : zdec 169 709 = some (.iconst 2, 1) := by decide +kernel
theorem zdL_710 : zdec 169 710 = some (.iadd, 1) := by decide +kernel
theorem zdL_711 : zdec 169 711 = some (.iaload, 1) := by decide +kernel
theorem zdL_712 : zdec 169 712 = some (.invokevirtual 89, 3) := by decide +kernel
theorem zdL_715 : zdec 169 715 = some (.if_icmp .eq 107, 3) := by decide +kernel
theorem zdL_720 : zdec 169 720 = some (.aload_n 1, 1) := by decide +kernel
theorem zdL_721 : zdec 169 721 = some (.aload_n 0, 1) := by decide +kernel
theorem zdL_722 : zdec 169 722 = some (.iload_n 3, 1) := by decide +kernel
theorem zdL_723 : zdec 169 723 = some (.iconst 1, 1) := by decide +kernel
theorem zdL_724 : zdec 169 724 = some (.iadd, 1) := by decide +kernel
theorem zdL_725 : zdec 169 725 = some (.iaload, 1) := by decide +kernel
theorem zdL_726 : zdec 169 726 = some (.aload_n 0, 1) := by decide +kernel
theorem zdL_727 : zdec 169 727 = some (.iload_n 3, 1) := by decide +kernel
theorem zdL_728 : zdec 169 728 = some (.iconst 2, 1) := by decide +kernel
theorem zdL_729 : zdec 169 729 = some (.iadd, 1) := by decide +kernel
theorem zdL_730 : zdec 169 730 = some (.iaload, 1) := by decide +kernel
theorem zdL_731 : zdec 169 731 = some (.aload_n 0, 1) := by decide +kernel
theorem zdL_732 : zdec 169 732 = some (.iload_n 3, 1) := by decide +kernel
theorem zdL_733 : zdec 169 733 = some (.iconst 3, 1) := by decide +kernel
theorem zdL_734 : zdec 169 734 = some (.iadd, 1) := by decide +kernel
theorem zdL_735 : zdec 169 735 = some (.iaload, 1) := by decide +kernel
theorem zdL_736 : zdec 169 736 = some (.invokevirtual 90, 3) := by decide +kernel
theorem zdL_739 : zdec 169 739 = some (.aload_n 2, 1) := by decide +kernel
theorem zdL_740 : zdec 169 740 = some (.aload_n 0, 1) := by decide +kernel
theorem zdL_741 : zdec 169 741 = some (.iload_n 3, 1) := by decide +kernel
theorem zdL_742 : zdec 169 742 = some (.iconst 1, 1) := by decide +kernel
theorem zdL_743 : zdec 169 743 = some (.iadd, 1) := by decide +kernel
theorem zdL_744 : zdec 169 744 = some (.iaload, 1) := by decide +kernel
theorem zdL_745 : zdec 169 745 = some (.aload_n 0, 1) := by decide +kernel
theorem zdL_746 : zdec 169 746 = some (.iload_n 3, 1) := by decide +kernel
theorem zdL_747 : zdec 169 747 = some (.iconst 2, 1) := by decide +kernel
theorem zdL_748 : zdec 169 748 = some (.iadd, 1) := by decide +kernel
theorem zdL_749 : zdec 169 749 = some (.iaload, 1) := by decide +kernel
theorem zdL_750 : zdec 169 750 = some (.aload_n 0, 1) := by decide +kernel
theorem zdL_751 : zdec 169 751 = some (.iload_n 3, 1) := by decide +kernel
theorem zdL_752 : zdec 169 752 = some (.iconst 3, 1) := by decide +kernel
theorem zdL_753 : zdec 169 753 = some (.iadd, 1) := by decide +kernel
theorem zdL_754 : zdec 169 754 = some (.iaload, 1) := by decide +kernel
theorem zdL_755 : zdec 169 755 = some (.invokevirtual 93, 3) := by decide +kernel
theorem zdL_758 : zdec 169 758 = some (.if_icmp .eq 64, 3) := by decide +kernel
theorem zdL_763 : zdec 169 763 = some (.aload_n 1, 1) := by decide +kernel
theorem zdL_764 : zdec 169 764 = some (.aload_n 0, 1) := by decide +kernel
theorem zdL_765 : zdec 169 765 = some (.iload_n 3, 1) := by decide +kernel
theorem zdL_766 : zdec 169 766 = some (.iconst 1, 1) := by decide +kernel
theorem zdL_767 : zdec 169 767 = some (.iadd, 1) := by decide +kernel
theorem zdL_768 : zdec 169 768 = some (.iaload, 1) := by decide +kernel
theorem zdL_769 : zdec 169 769 = some (.invokevirtual 94, 3) := by decide +kernel
theorem zdL_772 : zdec 169 772 = some (.aload_n 2, 1) := by decide +kernel
theorem zdL_773 : zdec 169 773 = some (.aload_n 0, 1) := by decide +kernel
theorem zdL_774 : zdec 169 774 = some (.iload_n 3, 1) := by decide +kernel
theorem zdL_775 : zdec 169 775 = some (.iconst 1, 1) := by decide +kernel
theorem zdL_776 : zdec 169 776 = some (.iadd, 1) := by decide +kernel
theorem zdL_777 : zdec 169 777 = some (.iaload, 1) := by decide +kernel
theorem zdL_778 : zdec 169 778 = some (.invokevirtual 97, 3) := by decide +kernel
theorem zdL_781 : zdec 169 781 = some (.if_icmp .eq 41, 3) := by decide +kernel
theorem zdL_786 : zdec 169 786 = some (.aload_n 1, 1) := by decide +kernel
theorem zdL_787 : zdec 169 787 = some (.aload_n 0, 1) := by decide +kernel
theorem zdL_788 : zdec 169 788 = some (.iload_n 3, 1) := by decide +kernel
theorem zdL_789 : zdec 169 789 = some (.iconst 1, 1) := by decide +kernel
theorem zdL_790 : zdec 169 790 = some (.iadd, 1) := by decide +kernel
theorem zdL_791 : zdec 169 791 = some (.iaload, 1) := by decide +kernel
theorem zdL_792 : zdec 169 792 = some (.invokevirtual 98, 3) := by decide +kernel
theorem zdL_795 : zdec 169 795 = some (.aload_n 2, 1) := by decide +kernel
theorem zdL_796 : zdec 169 796 = some (.aload_n 0, 1) := by decide +kernel
theorem zdL_797 : zdec 169 797 = some (.iload_n 3, 1) := by decide +kernel
theorem zdL_798 : zdec 169 798 = some (.iconst 1, 1) := by decide +kernel
theorem zdL_799 : zdec 169 799 = some (.iadd, 1) := by decide +kernel
theorem zdL_800 : zdec 169 800 = some (.iaload, 1) := by decide +kernel
theorem zdL_801 : zdec 169 801 = some (.invokevirtual 101, 3) := by decide +kernel
theorem zdL_804 : zdec 169 804 = some (.if_icmp .eq 18, 3) := by decide +kernel
theorem zdL_809 : zdec 169 809 = some (.aload_n 1, 1) := by decide +kernel
theorem zdL_810 : zdec 169 810 = some (.invokevirtual 102, 3) := by decide +kernel
theorem zdL_813 : zdec 169 813 = some (.aload_n 2, 1) := by decide +kernel
theorem zdL_814 : zdec 169 814 = some (.invokevirtual 105, 3) := by decide +kernel
theorem zdL_817 : zdec 169 817 = some (.if_icmp .eq 5, 3) := by decide +kernel
theorem zdL_822 : zdec 169 822 = some (.iinc 3 5, 3) := by decide +kernel
theorem zdL_825 : zdec 169 825 = some (.goto (-807), 3) := by decide +kernel
theorem zdL_828 : zdec 169 828 = some (.iconst 1, 1) := by decide +kernel
theorem zdL_829 : zdec 169 829 = some (.ireturn, 1) := by decide +kernel
def zB (L : Nat) (xs : Nat → Int32) : Nat → Option va_E := fun a => if a = 0 then some (.inl (9, L, .inl xs)) else none
theorem z1w_ov (L : Nat) (xs : Nat → Int32) : z1w L xs = zov (zB L xs) zx0 := rfl
theorem zt_newB {d mi pc mL o : Nat} {L : zL} {st : List Value} {w w' : zW} {r : Option Value} {y : MethodName} {b : ByteArray} {ret : Option FieldType} {ini : Bool} {pc' : Nat} {idx ci a : Nat} {B : Nat → Option va_E} (hd : zdec mi pc = some (.new idx, 3)) (hM : zMt[mi]? = some (y, b, mL, ret, o, ini)) (hp : pc + 3 = pc') (hc : zck o idx = some ci) (hn : w.2.1 = a) (k : zev d mi pc' L (.ref a :: st) (zov B (va_up w.1 a (some (.inr (ci, zdf ci))), a + 1, w.2.2 + (ztab ci).2.2)) r w') : zev d mi pc L st (zov B w) r w' := by
  subst hn
  refine zt_new hd hM hp hc ?_
  have e := zov_up (B := B) (h := w.1) (a := w.2.1) (e := .inr (ci, zdf ci)) (q := (w.2.1 + 1, w.2.2 + (ztab ci).2.2))
  rw [← e] at k
  exact k
theorem zl_in {L : Nat} {xs : Nat → Int32} {r : Option Value} {w' : zW} (k : zev 41 169 18 [some (.ref 0), some (.ref 1), some (.ref 9), some (.int 0)] [] (zov (zB L xs) zx4) r w') : zev 41 169 0 (zin 4 [.ref 0]) [] (z1w L xs) r w' := by
  show zev 41 169 0 [some (.ref 0), none, none, none] [] (zov (zB L xs) zx0) _ _
  refine zt_newB (a := 1) (ci := 4) (pc' := 3) ((zd_169 _).trans rfl) zm_169 rfl (by decide +kernel) rfl ?_
  show zev 41 169 3 [some (.ref 0), none, none, none] [.ref 1] (zov (zB L xs) zx1) _ _
  refine zt (pc' := 4) ((zd_169 _).trans rfl) zm_169 rfl rfl ?_
  refine zt_P (len := 0) (pc' := 7) ((zd_169 _).trans rfl) zm_169 rfl zq_8_9 (by decide) rfl (Nat.le_of_ble_eq_true rfl) rfl (zmet_ov (by decide) zx_R) ?_
  refine zt (pc' := 8) ((zd_169 _).trans rfl) zm_169 rfl rfl ?_
  refine zt_newB (a := 9) (ci := 5) (pc' := 11) ((zd_169 _).trans rfl) zm_169 rfl (by decide +kernel) zx2_n ?_
  show zev 41 169 11 [some (.ref 0), some (.ref 1), none, none] [.ref 9] (zov (zB L xs) zx3) _ _
  refine zt (pc' := 12) ((zd_169 _).trans rfl) zm_169 rfl rfl ?_
  refine zt_P (len := 0) (pc' := 15) ((zd_169 _).trans rfl) zm_169 rfl zq_8_12 (by decide) rfl (Nat.le_of_ble_eq_true rfl) rfl (zmet_ov (by decide) zx_M) ?_
  refine zt (pc' := 16) ((zd_169 _).trans rfl) zm_169 rfl rfl ?_
  refine zt (pc' := 17) ((zd_169 _).trans rfl) zm_169 rfl rfl ?_
  refine zt (pc' := 18) ((zd_169 _).trans rfl) zm_169 rfl rfl ?_
  exact k
theorem zB_0 {L : Nat} {xs : Nat → Int32} {w : zW} (h : w.1 0 = none) : (zov (zB L xs) w).1 0 = some (.inl (9, L, .inl xs)) := by
  simp [zov, h, zB]
theorem zB_c {L : Nat} {xs : Nat → Int32} {w : zW} {a : Nat} {e : va_E} (h : w.1 a = some e) : (zov (zB L xs) w).1 a = some e := by
  simp [zov, h]
theorem zev_ialdX {d mi pc mL o a N : Nat} {L : zL} {w w' : zW} {r : Option Value} {y : MethodName} {b : ByteArray} {ret : Option FieldType} {ini : Bool} {f : Nat → Int32} {x : Int32} {rr : List Value} {pc' : Nat} (hd : zdec mi pc = some (.iaload, 1)) (hM : zMt[mi]? = some (y, b, mL, ret, o, ini)) (hp : pc + 1 = pc') (ha : w.1 a = some (.inl (9, N, .inl f))) (hi : zbd x N = true) (kk : zev d mi pc' L (.int (f x.toNatClampNeg) :: rr) w r w') : zev d mi pc L (.int x :: .ref a :: rr) w r w' := by
  subst hp
  exact zev_H hM (zdec_ok hM hd) rfl (by simp only [zA]) (by simp only [zH, zHia, ha, hi]; simp) kk
theorem zev_alenX {d mi pc mL o a N : Nat} {L : zL} {w w' : zW} {r : Option Value} {y : MethodName} {b : ByteArray} {ret : Option FieldType} {ini : Bool} {f : Nat → Int32} {rr : List Value} {pc' : Nat} (hd : zdec mi pc = some (.arraylength, 1)) (hM : zMt[mi]? = some (y, b, mL, ret, o, ini)) (hp : pc + 1 = pc') (ha : w.1 a = some (.inl (9, N, .inl f))) (kk : zev d mi pc' L (.int (Int32.ofNat N) :: rr) w r w') : zev d mi pc L (.ref a :: rr) w r w' := by
  subst hp
  exact zev_H hM (zdec_ok hM hd) rfl (by simp only [zA]) (by simp only [zH, zHal, ha]; simp) kk
theorem zl_out {d L : Nat} {xs : Nat → Int32} {i : Int32} {w : zW} (h0 : w.1 0 = some (.inl (9, L, .inl xs))) (h : Int32.ofNat L - 5 < i) : zev d 169 18 [some (.ref 0), some (.ref 1), some (.ref 9), some (.int i)] [] w (some (.int 1)) w := by
  refine zt (pc' := 19) zdL_18 zm_169 rfl rfl ?_
  refine zt (pc' := 20) zdL_19 zm_169 rfl rfl ?_
  refine zev_alenX (pc' := 21) zdL_20 zm_169 rfl h0 ?_
  refine zt (pc' := 22) zdL_21 zm_169 rfl rfl ?_
  refine zt (pc' := 23) zdL_22 zm_169 rfl rfl ?_
  refine zt_icT (tgt := 828) (pc' := 26) zdL_23 zm_169 rfl rfl (zgt h) ?_
  refine zt (pc' := 829) zdL_828 zm_169 rfl rfl ?_
  exact zte zdL_829 zm_169 rfl
theorem zl_go {d : Nat} {xs : Nat → Int32} {w w' : zW} {r : Option Value} (h0 : w.1 0 = some (.inl (9, 5, .inl xs))) (k : zev d 169 32 [some (.ref 0), some (.ref 1), some (.ref 9), some (.int 0)] [.int (xs 0 &&& 31)] w r w') : zev d 169 18 [some (.ref 0), some (.ref 1), some (.ref 9), some (.int 0)] [] w r w' := by
  refine zt (pc' := 19) zdL_18 zm_169 rfl rfl ?_
  refine zt (pc' := 20) zdL_19 zm_169 rfl rfl ?_
  refine zev_alenX (pc' := 21) zdL_20 zm_169 rfl h0 ?_
  refine zt (pc' := 22) zdL_21 zm_169 rfl rfl ?_
  refine zt (pc' := 23) zdL_22 zm_169 rfl rfl ?_
  refine zt_icF (tgt := 828) (pc' := 26) zdL_23 zm_169 rfl rfl (zngt (by decide)) ?_
  refine zt (pc' := 27) zdL_26 zm_169 rfl rfl ?_
  refine zt (pc' := 28) zdL_27 zm_169 rfl rfl ?_
  refine zev_ialdX (pc' := 29) zdL_28 zm_169 rfl h0 (by decide) ?_
  refine zt (pc' := 31) zdL_29 zm_169 rfl rfl ?_
  refine zt (pc' := 32) zdL_31 zm_169 rfl rfl ?_
  exact k
theorem zl_begin {xs : Nat → Int32} (h : zP 74 106 [.int (xs 1)]) : ∃ w', zev 41 169 136 [some (.ref 0), some (.ref 1), some (.ref 9), some (.int 0)] [] (zov (zB 5 xs) zx4) (some (.int 1)) w' ∧ w'.2.1 ≤ 600000 ∧ w'.2.2 ≤ 7302250 := by
  obtain ⟨v, w1, w2, h1, h2, q1, q2⟩ := h
  obtain ⟨fs, h9⟩ := q1.2.2.2.2
  refine ⟨zov (zB 5 xs) w2, ?_, q2.2.1, q2.2.2.1⟩
  refine zt (pc' := 137) zdL_136 zm_169 rfl rfl ?_
  refine zt (pc' := 138) zdL_137 zm_169 rfl rfl ?_
  refine zt (pc' := 139) zdL_138 zm_169 rfl rfl ?_
  refine zt (pc' := 140) zdL_139 zm_169 rfl rfl ?_
  refine zt (pc' := 141) zdL_140 zm_169 rfl rfl ?_
  refine zev_ialdX (pc' := 142) zdL_141 zm_169 rfl (zB_0 zx4_Rm.2.2.2.1) (by decide) ?_
  refine zt_V (pc' := 145) zdL_142 zm_169 rfl zq_8_13 rfl (Nat.le_of_ble_eq_true rfl) (zB_c zx4_1) zqv_8_13_4 (by decide) rfl (zmet_ov zx4_n h1) ?_
  refine zt (pc' := 146) zdL_145 zm_169 rfl rfl ?_
  refine zt (pc' := 147) zdL_146 zm_169 rfl rfl ?_
  refine zt (pc' := 148) zdL_147 zm_169 rfl rfl ?_
  refine zt (pc' := 149) zdL_148 zm_169 rfl rfl ?_
  refine zt (pc' := 150) zdL_149 zm_169 rfl rfl ?_
  refine zev_ialdX (pc' := 151) zdL_150 zm_169 rfl (zB_0 q1.2.2.2.1) (by decide) ?_
  refine zt_V (pc' := 154) zdL_151 zm_169 rfl zq_8_17 rfl (Nat.le_of_ble_eq_true rfl) (zB_c h9) zqv_8_17_5 (by decide) rfl (zmet_ov q1.1 h2) ?_
  refine zt_icT (tgt := 822) (pc' := 157) zdL_154 zm_169 rfl rfl (zeq rfl) ?_
  refine zt (pc' := 825) zdL_822 zm_169 rfl rfl ?_
  refine zt (pc' := 18) zdL_825 zm_169 rfl rfl ?_
  exact zl_out (zB_0 q2.2.2.2.1) (by decide)
theorem zl_joint {xs : Nat → Int32} (h : zP 86 141 [.int (xs 1), .int (xs 2), .int (xs 3), .int (xs 4)]) : ∃ w', zev 41 169 159 [some (.ref 0), some (.ref 1), some (.ref 9), some (.int 0)] [] (zov (zB 5 xs) zx4) (some (.int 1)) w' ∧ w'.2.1 ≤ 600000 ∧ w'.2.2 ≤ 7302250 := by
  obtain ⟨v, w1, w2, h1, h2, q1, q2⟩ := h
  obtain ⟨fs, h9⟩ := q1.2.2.2.2
  refine ⟨zov (zB 5 xs) w2, ?_, q2.2.1, q2.2.2.1⟩
  refine zt (pc' := 160) zdL_159 zm_169 rfl rfl ?_
  refine zt (pc' := 161) zdL_160 zm_169 rfl rfl ?_
  refine zt (pc' := 162) zdL_161 zm_169 rfl rfl ?_
  refine zt (pc' := 163) zdL_162 zm_169 rfl rfl ?_
  refine zt (pc' := 164) zdL_163 zm_169 rfl rfl ?_
  refine zev_ialdX (pc' := 165) zdL_164 zm_169 rfl (zB_0 zx4_Rm.2.2.2.1) (by decide) ?_
  refine zt (pc' := 166) zdL_165 zm_169 rfl rfl ?_
  refine zt (pc' := 167) zdL_166 zm_169 rfl rfl ?_
  refine zt (pc' := 168) zdL_167 zm_169 rfl rfl ?_
  refine zt (pc' := 169) zdL_168 zm_169 rfl rfl ?_
  refine zev_ialdX (pc' := 170) zdL_169 zm_169 rfl (zB_0 zx4_Rm.2.2.2.1) (by decide) ?_
  refine zt (pc' := 171) zdL_170 zm_169 rfl rfl ?_
  refine zt (pc' := 172) zdL_171 zm_169 rfl rfl ?_
  refine zt (pc' := 173) zdL_172 zm_169 rfl rfl ?_
  refine zt (pc' := 174) zdL_173 zm_169 rfl rfl ?_
  refine zev_ialdX (pc' := 175) zdL_174 zm_169 rfl (zB_0 zx4_Rm.2.2.2.1) (by decide) ?_
  refine zt (pc' := 176) zdL_175 zm_169 rfl rfl ?_
  refine zt (pc' := 177) zdL_176 zm_169 rfl rfl ?_
  refine zt (pc' := 178) zdL_177 zm_169 rfl rfl ?_
  refine zt (pc' := 179) zdL_178 zm_169 rfl rfl ?_
  refine zev_ialdX (pc' := 180) zdL_179 zm_169 rfl (zB_0 zx4_Rm.2.2.2.1) (by decide) ?_
  refine zt_V (pc' := 183) zdL_180 zm_169 rfl zq_8_18 rfl (Nat.le_of_ble_eq_true rfl) (zB_c zx4_1) zqv_8_18_4 (by decide) rfl (zmet_ov zx4_n h1) ?_
  refine zt (pc' := 184) zdL_183 zm_169 rfl rfl ?_
  refine zt (pc' := 185) zdL_184 zm_169 rfl rfl ?_
  refine zt (pc' := 186) zdL_185 zm_169 rfl rfl ?_
  refine zt (pc' := 187) zdL_186 zm_169 rfl rfl ?_
  refine zt (pc' := 188) zdL_187 zm_169 rfl rfl ?_
  refine zev_ialdX (pc' := 189) zdL_188 zm_169 rfl (zB_0 q1.2.2.2.1) (by decide) ?_
  refine zt (pc' := 190) zdL_189 zm_169 rfl rfl ?_
  refine zt (pc' := 191) zdL_190 zm_169 rfl rfl ?_
  refine zt (pc' := 192) zdL_191 zm_169 rfl rfl ?_
  refine zt (pc' := 193) zdL_192 zm_169 rfl rfl ?_
  refine zev_ialdX (pc' := 194) zdL_193 zm_169 rfl (zB_0 q1.2.2.2.1) (by decide) ?_
  refine zt (pc' := 195) zdL_194 zm_169 rfl rfl ?_
  refine zt (pc' := 196) zdL_195 zm_169 rfl rfl ?_
  refine zt (pc' := 197) zdL_196 zm_169 rfl rfl ?_
  refine zt (pc' := 198) zdL_197 zm_169 rfl rfl ?_
  refine zev_ialdX (pc' := 199) zdL_198 zm_169 rfl (zB_0 q1.2.2.2.1) (by decide) ?_
  refine zt (pc' := 200) zdL_199 zm_169 rfl rfl ?_
  refine zt (pc' := 201) zdL_200 zm_169 rfl rfl ?_
  refine zt (pc' := 202) zdL_201 zm_169 rfl rfl ?_
  refine zt (pc' := 203) zdL_202 zm_169 rfl rfl ?_
  refine zev_ialdX (pc' := 204) zdL_203 zm_169 rfl (zB_0 q1.2.2.2.1) (by decide) ?_
  refine zt_V (pc' := 207) zdL_204 zm_169 rfl zq_8_22 rfl (Nat.le_of_ble_eq_true rfl) (zB_c h9) zqv_8_22_5 (by decide) rfl (zmet_ov q1.1 h2) ?_
  refine zt_icT (tgt := 822) (pc' := 210) zdL_207 zm_169 rfl rfl (zeq rfl) ?_
  refine zt (pc' := 825) zdL_822 zm_169 rfl rfl ?_
  refine zt (pc' := 18) zdL_825 zm_169 rfl rfl ?_
  exact zl_out (zB_0 q2.2.2.2.1) (by decide)
theorem zl_bar {xs : Nat → Int32} (h : zP 73 104 [.int (xs 1), .int (xs 2)]) : ∃ w', zev 41 169 212 [some (.ref 0), some (.ref 1), some (.ref 9), some (.int 0)] [] (zov (zB 5 xs) zx4) (some (.int 1)) w' ∧ w'.2.1 ≤ 600000 ∧ w'.2.2 ≤ 7302250 := by
  obtain ⟨v, w1, w2, h1, h2, q1, q2⟩ := h
  obtain ⟨fs, h9⟩ := q1.2.2.2.2
  refine ⟨zov (zB 5 xs) w2, ?_, q2.2.1, q2.2.2.1⟩
  refine zt (pc' := 213) zdL_212 zm_169 rfl rfl ?_
  refine zt (pc' := 214) zdL_213 zm_169 rfl rfl ?_
  refine zt (pc' := 215) zdL_214 zm_169 rfl rfl ?_
  refine zt (pc' := 216) zdL_215 zm_169 rfl rfl ?_
  refine zt (pc' := 217) zdL_216 zm_169 rfl rfl ?_
  refine zev_ialdX (pc' := 218) zdL_217 zm_169 rfl (zB_0 zx4_Rm.2.2.2.1) (by decide) ?_
  refine zt (pc' := 219) zdL_218 zm_169 rfl rfl ?_
  refine zt (pc' := 220) zdL_219 zm_169 rfl rfl ?_
  refine zt (pc' := 221) zdL_220 zm_169 rfl rfl ?_
  refine zt (pc' := 222) zdL_221 zm_169 rfl rfl ?_
  refine zev_ialdX (pc' := 223) zdL_222 zm_169 rfl (zB_0 zx4_Rm.2.2.2.1) (by decide) ?_
  refine zt_V (pc' := 226) zdL_223 zm_169 rfl zq_8_23 rfl (Nat.le_of_ble_eq_true rfl) (zB_c zx4_1) zqv_8_23_4 (by decide) rfl (zmet_ov zx4_n h1) ?_
  refine zt (pc' := 227) zdL_226 zm_169 rfl rfl ?_
  refine zt (pc' := 228) zdL_227 zm_169 rfl rfl ?_
  refine zt (pc' := 229) zdL_228 zm_169 rfl rfl ?_
  refine zt (pc' := 230) zdL_229 zm_169 rfl rfl ?_
  refine zt (pc' := 231) zdL_230 zm_169 rfl rfl ?_
  refine zev_ialdX (pc' := 232) zdL_231 zm_169 rfl (zB_0 q1.2.2.2.1) (by decide) ?_
  refine zt (pc' := 233) zdL_232 zm_169 rfl rfl ?_
  refine zt (pc' := 234) zdL_233 zm_169 rfl rfl ?_
  refine zt (pc' := 235) zdL_234 zm_169 rfl rfl ?_
  refine zt (pc' := 236) zdL_235 zm_169 rfl rfl ?_
  refine zev_ialdX (pc' := 237) zdL_236 zm_169 rfl (zB_0 q1.2.2.2.1) (by decide) ?_
  refine zt_V (pc' := 240) zdL_237 zm_169 rfl zq_8_27 rfl (Nat.le_of_ble_eq_true rfl) (zB_c h9) zqv_8_27_5 (by decide) rfl (zmet_ov q1.1 h2) ?_
  refine zt_icT (tgt := 822) (pc' := 243) zdL_240 zm_169 rfl rfl (zeq rfl) ?_
  refine zt (pc' := 825) zdL_822 zm_169 rfl rfl ?_
  refine zt (pc' := 18) zdL_825 zm_169 rfl rfl ?_
  exact zl_out (zB_0 q2.2.2.2.1) (by decide)
theorem zl_unbar {xs : Nat → Int32} (h : zP 100 168 []) : ∃ w', zev 41 169 245 [some (.ref 0), some (.ref 1), some (.ref 9), some (.int 0)] [] (zov (zB 5 xs) zx4) (some (.int 1)) w' ∧ w'.2.1 ≤ 600000 ∧ w'.2.2 ≤ 7302250 := by
  obtain ⟨v, w1, w2, h1, h2, q1, q2⟩ := h
  obtain ⟨fs, h9⟩ := q1.2.2.2.2
  refine ⟨zov (zB 5 xs) w2, ?_, q2.2.1, q2.2.2.1⟩
  refine zt (pc' := 246) zdL_245 zm_169 rfl rfl ?_
  refine zt_V (pc' := 249) zdL_246 zm_169 rfl zq_8_28 rfl (Nat.le_of_ble_eq_true rfl) (zB_c zx4_1) zqv_8_28_4 (by decide) rfl (zmet_ov zx4_n h1) ?_
  refine zt (pc' := 250) zdL_249 zm_169 rfl rfl ?_
  refine zt_V (pc' := 253) zdL_250 zm_169 rfl zq_8_32 rfl (Nat.le_of_ble_eq_true rfl) (zB_c h9) zqv_8_32_5 (by decide) rfl (zmet_ov q1.1 h2) ?_
  refine zt_icT (tgt := 822) (pc' := 256) zdL_253 zm_169 rfl rfl (zeq rfl) ?_
  refine zt (pc' := 825) zdL_822 zm_169 rfl rfl ?_
  refine zt (pc' := 18) zdL_825 zm_169 rfl rfl ?_
  exact zl_out (zB_0 q2.2.2.2.1) (by decide)
theorem zl_sign {xs : Nat → Int32} (h : zP 95 159 [.int (xs 1), .int (xs 2)]) : ∃ w', zev 41 169 258 [some (.ref 0), some (.ref 1), some (.ref 9), some (.int 0)] [] (zov (zB 5 xs) zx4) (some (.int 1)) w' ∧ w'.2.1 ≤ 600000 ∧ w'.2.2 ≤ 7302250 := by
  obtain ⟨v, w1, w2, h1, h2, q1, q2⟩ := h
  obtain ⟨fs, h9⟩ := q1.2.2.2.2
  refine ⟨zov (zB 5 xs) w2, ?_, q2.2.1, q2.2.2.1⟩
  refine zt (pc' := 259) zdL_258 zm_169 rfl rfl ?_
  refine zt (pc' := 260) zdL_259 zm_169 rfl rfl ?_
  refine zt (pc' := 261) zdL_260 zm_169 rfl rfl ?_
  refine zt (pc' := 262) zdL_261 zm_169 rfl rfl ?_
  refine zt (pc' := 263) zdL_262 zm_169 rfl rfl ?_
  refine zev_ialdX (pc' := 264) zdL_263 zm_169 rfl (zB_0 zx4_Rm.2.2.2.1) (by decide) ?_
  refine zt (pc' := 265) zdL_264 zm_169 rfl rfl ?_
  refine zt (pc' := 266) zdL_265 zm_169 rfl rfl ?_
  refine zt (pc' := 267) zdL_266 zm_169 rfl rfl ?_
  refine zt (pc' := 268) zdL_267 zm_169 rfl rfl ?_
  refine zev_ialdX (pc' := 269) zdL_268 zm_169 rfl (zB_0 zx4_Rm.2.2.2.1) (by decide) ?_
  refine zt_V (pc' := 272) zdL_269 zm_169 rfl zq_8_33 rfl (Nat.le_of_ble_eq_true rfl) (zB_c zx4_1) zqv_8_33_4 (by decide) rfl (zmet_ov zx4_n h1) ?_
  refine zt (pc' := 273) zdL_272 zm_169 rfl rfl ?_
  refine zt (pc' := 274) zdL_273 zm_169 rfl rfl ?_
  refine zt (pc' := 275) zdL_274 zm_169 rfl rfl ?_
  refine zt (pc' := 276) zdL_275 zm_169 rfl rfl ?_
  refine zt (pc' := 277) zdL_276 zm_169 rfl rfl ?_
  refine zev_ialdX (pc' := 278) zdL_277 zm_169 rfl (zB_0 q1.2.2.2.1) (by decide) ?_
  refine zt (pc' := 279) zdL_278 zm_169 rfl rfl ?_
  refine zt (pc' := 280) zdL_279 zm_169 rfl rfl ?_
  refine zt (pc' := 281) zdL_280 zm_169 rfl rfl ?_
  refine zt (pc' := 282) zdL_281 zm_169 rfl rfl ?_
  refine zev_ialdX (pc' := 283) zdL_282 zm_169 rfl (zB_0 q1.2.2.2.1) (by decide) ?_
  refine zt_V (pc' := 286) zdL_283 zm_169 rfl zq_8_36 rfl (Nat.le_of_ble_eq_true rfl) (zB_c h9) zqv_8_36_5 (by decide) rfl (zmet_ov q1.1 h2) ?_
  refine zt_icT (tgt := 822) (pc' := 289) zdL_286 zm_169 rfl rfl (zeq rfl) ?_
  refine zt (pc' := 825) zdL_822 zm_169 rfl rfl ?_
  refine zt (pc' := 18) zdL_825 zm_169 rfl rfl ?_
  exact zl_out (zB_0 q2.2.2.2.1) (by decide)
theorem zl_count {xs : Nat → Int32} (h : zP 79 115 [.int (xs 1)]) : ∃ w', zev 41 169 291 [some (.ref 0), some (.ref 1), some (.ref 9), some (.int 0)] [] (zov (zB 5 xs) zx4) (some (.int 1)) w' ∧ w'.2.1 ≤ 600000 ∧ w'.2.2 ≤ 7302250 := by
  obtain ⟨v, w1, w2, h1, h2, q1, q2⟩ := h
  obtain ⟨fs, h9⟩ := q1.2.2.2.2
  refine ⟨zov (zB 5 xs) w2, ?_, q2.2.1, q2.2.2.1⟩
  refine zt (pc' := 292) zdL_291 zm_169 rfl rfl ?_
  refine zt (pc' := 293) zdL_292 zm_169 rfl rfl ?_
  refine zt (pc' := 294) zdL_293 zm_169 rfl rfl ?_
  refine zt (pc' := 295) zdL_294 zm_169 rfl rfl ?_
  refine zt (pc' := 296) zdL_295 zm_169 rfl rfl ?_
  refine zev_ialdX (pc' := 297) zdL_296 zm_169 rfl (zB_0 zx4_Rm.2.2.2.1) (by decide) ?_
  refine zt_V (pc' := 300) zdL_297 zm_169 rfl zq_8_37 rfl (Nat.le_of_ble_eq_true rfl) (zB_c zx4_1) zqv_8_37_4 (by decide) rfl (zmet_ov zx4_n h1) ?_
  refine zt (pc' := 301) zdL_300 zm_169 rfl rfl ?_
  refine zt (pc' := 302) zdL_301 zm_169 rfl rfl ?_
  refine zt (pc' := 303) zdL_302 zm_169 rfl rfl ?_
  refine zt (pc' := 304) zdL_303 zm_169 rfl rfl ?_
  refine zt (pc' := 305) zdL_304 zm_169 rfl rfl ?_
  refine zev_ialdX (pc' := 306) zdL_305 zm_169 rfl (zB_0 q1.2.2.2.1) (by decide) ?_
  refine zt_V (pc' := 309) zdL_306 zm_169 rfl zq_8_40 rfl (Nat.le_of_ble_eq_true rfl) (zB_c h9) zqv_8_40_5 (by decide) rfl (zmet_ov q1.1 h2) ?_
  refine zt_icT (tgt := 822) (pc' := 312) zdL_309 zm_169 rfl rfl (zeq rfl) ?_
  refine zt (pc' := 825) zdL_822 zm_169 rfl rfl ?_
  refine zt (pc' := 18) zdL_825 zm_169 rfl rfl ?_
  exact zl_out (zB_0 q2.2.2.2.1) (by decide)
theorem zl_end {xs : Nat → Int32} (h : zP 80 117 [.int (xs 1), .int (xs 2)]) : ∃ w', zev 41 169 314 [some (.ref 0), some (.ref 1), some (.ref 9), some (.int 0)] [] (zov (zB 5 xs) zx4) (some (.int 1)) w' ∧ w'.2.1 ≤ 600000 ∧ w'.2.2 ≤ 7302250 := by
  obtain ⟨v, w1, w2, h1, h2, q1, q2⟩ := h
  obtain ⟨fs, h9⟩ := q1.2.2.2.2
  refine ⟨zov (zB 5 xs) w2, ?_, q2.2.1, q2.2.2.1⟩
  refine zt (pc' := 315) zdL_314 zm_169 rfl rfl ?_
  refine zt (pc' := 316) zdL_315 zm_169 rfl rfl ?_
  refine zt (pc' := 317) zdL_316 zm_169 rfl rfl ?_
  refine zt (pc' := 318) zdL_317 zm_169 rfl rfl ?_
  refine zt (pc' := 319) zdL_318 zm_169 rfl rfl ?_
  refine zev_ialdX (pc' := 320) zdL_319 zm_169 rfl (zB_0 zx4_Rm.2.2.2.1) (by decide) ?_
  refine zt (pc' := 321) zdL_320 zm_169 rfl rfl ?_
  refine zt (pc' := 322) zdL_321 zm_169 rfl rfl ?_
  refine zt (pc' := 323) zdL_322 zm_169 rfl rfl ?_
  refine zt (pc' := 324) zdL_323 zm_169 rfl rfl ?_
  refine zev_ialdX (pc' := 325) zdL_324 zm_169 rfl (zB_0 zx4_Rm.2.2.2.1) (by decide) ?_
  refine zt_V (pc' := 328) zdL_325 zm_169 rfl zq_8_41 rfl (Nat.le_of_ble_eq_true rfl) (zB_c zx4_1) zqv_8_41_4 (by decide) rfl (zmet_ov zx4_n h1) ?_
  refine zt (pc' := 329) zdL_328 zm_169 rfl rfl ?_
  refine zt (pc' := 330) zdL_329 zm_169 rfl rfl ?_
  refine zt (pc' := 331) zdL_330 zm_169 rfl rfl ?_
  refine zt (pc' := 332) zdL_331 zm_169 rfl rfl ?_
  refine zt (pc' := 333) zdL_332 zm_169 rfl rfl ?_
  refine zev_ialdX (pc' := 334) zdL_333 zm_169 rfl (zB_0 q1.2.2.2.1) (by decide) ?_
  refine zt (pc' := 335) zdL_334 zm_169 rfl rfl ?_
  refine zt (pc' := 336) zdL_335 zm_169 rfl rfl ?_
  refine zt (pc' := 337) zdL_336 zm_169 rfl rfl ?_
  refine zt (pc' := 338) zdL_337 zm_169 rfl rfl ?_
  refine zev_ialdX (pc' := 339) zdL_338 zm_169 rfl (zB_0 q1.2.2.2.1) (by decide) ?_
  refine zt_V (pc' := 342) zdL_339 zm_169 rfl zq_8_44 rfl (Nat.le_of_ble_eq_true rfl) (zB_c h9) zqv_8_44_5 (by decide) rfl (zmet_ov q1.1 h2) ?_
  refine zt_icT (tgt := 822) (pc' := 345) zdL_342 zm_169 rfl rfl (zeq rfl) ?_
  refine zt (pc' := 825) zdL_822 zm_169 rfl rfl ?_
  refine zt (pc' := 18) zdL_825 zm_169 rfl rfl ?_
  exact zl_out (zB_0 q2.2.2.2.1) (by decide)
theorem zl_at {xs : Nat → Int32} (h : zP 72 103 [.int (xs 1), .int (xs 2)]) : ∃ w', zev 41 169 347 [some (.ref 0), some (.ref 1), some (.ref 9), some (.int 0)] [] (zov (zB 5 xs) zx4) (some (.int 1)) w' ∧ w'.2.1 ≤ 600000 ∧ w'.2.2 ≤ 7302250 := by
  obtain ⟨v, w1, w2, h1, h2, q1, q2⟩ := h
  obtain ⟨fs, h9⟩ := q1.2.2.2.2
  refine ⟨zov (zB 5 xs) w2, ?_, q2.2.1, q2.2.2.1⟩
  refine zt (pc' := 348) zdL_347 zm_169 rfl rfl ?_
  refine zt (pc' := 349) zdL_348 zm_169 rfl rfl ?_
  refine zt (pc' := 350) zdL_349 zm_169 rfl rfl ?_
  refine zt (pc' := 351) zdL_350 zm_169 rfl rfl ?_
  refine zt (pc' := 352) zdL_351 zm_169 rfl rfl ?_
  refine zev_ialdX (pc' := 353) zdL_352 zm_169 rfl (zB_0 zx4_Rm.2.2.2.1) (by decide) ?_
  refine zt (pc' := 354) zdL_353 zm_169 rfl rfl ?_
  refine zt (pc' := 355) zdL_354 zm_169 rfl rfl ?_
  refine zt (pc' := 356) zdL_355 zm_169 rfl rfl ?_
  refine zt (pc' := 357) zdL_356 zm_169 rfl rfl ?_
  refine zev_ialdX (pc' := 358) zdL_357 zm_169 rfl (zB_0 zx4_Rm.2.2.2.1) (by decide) ?_
  refine zt_V (pc' := 361) zdL_358 zm_169 rfl zq_8_45 rfl (Nat.le_of_ble_eq_true rfl) (zB_c zx4_1) zqv_8_45_4 (by decide) rfl (zmet_ov zx4_n h1) ?_
  refine zt (pc' := 362) zdL_361 zm_169 rfl rfl ?_
  refine zt (pc' := 363) zdL_362 zm_169 rfl rfl ?_
  refine zt (pc' := 364) zdL_363 zm_169 rfl rfl ?_
  refine zt (pc' := 365) zdL_364 zm_169 rfl rfl ?_
  refine zt (pc' := 366) zdL_365 zm_169 rfl rfl ?_
  refine zev_ialdX (pc' := 367) zdL_366 zm_169 rfl (zB_0 q1.2.2.2.1) (by decide) ?_
  refine zt (pc' := 368) zdL_367 zm_169 rfl rfl ?_
  refine zt (pc' := 369) zdL_368 zm_169 rfl rfl ?_
  refine zt (pc' := 370) zdL_369 zm_169 rfl rfl ?_
  refine zt (pc' := 371) zdL_370 zm_169 rfl rfl ?_
  refine zev_ialdX (pc' := 372) zdL_371 zm_169 rfl (zB_0 q1.2.2.2.1) (by decide) ?_
  refine zt_V (pc' := 375) zdL_372 zm_169 rfl zq_8_48 rfl (Nat.le_of_ble_eq_true rfl) (zB_c h9) zqv_8_48_5 (by decide) rfl (zmet_ov q1.1 h2) ?_
  refine zt_icT (tgt := 822) (pc' := 378) zdL_375 zm_169 rfl rfl (zeq rfl) ?_
  refine zt (pc' := 825) zdL_822 zm_169 rfl rfl ?_
  refine zt (pc' := 18) zdL_825 zm_169 rfl rfl ?_
  exact zl_out (zB_0 q2.2.2.2.1) (by decide)
theorem zl_rank {xs : Nat → Int32} (h : zP 93 154 [.int (xs 1), .int (xs 2)]) : ∃ w', zev 41 169 380 [some (.ref 0), some (.ref 1), some (.ref 9), some (.int 0)] [] (zov (zB 5 xs) zx4) (some (.int 1)) w' ∧ w'.2.1 ≤ 600000 ∧ w'.2.2 ≤ 7302250 := by
  obtain ⟨v, w1, w2, h1, h2, q1, q2⟩ := h
  obtain ⟨fs, h9⟩ := q1.2.2.2.2
  refine ⟨zov (zB 5 xs) w2, ?_, q2.2.1, q2.2.2.1⟩
  refine zt (pc' := 381) zdL_380 zm_169 rfl rfl ?_
  refine zt (pc' := 382) zdL_381 zm_169 rfl rfl ?_
  refine zt (pc' := 383) zdL_382 zm_169 rfl rfl ?_
  refine zt (pc' := 384) zdL_383 zm_169 rfl rfl ?_
  refine zt (pc' := 385) zdL_384 zm_169 rfl rfl ?_
  refine zev_ialdX (pc' := 386) zdL_385 zm_169 rfl (zB_0 zx4_Rm.2.2.2.1) (by decide) ?_
  refine zt (pc' := 387) zdL_386 zm_169 rfl rfl ?_
  refine zt (pc' := 388) zdL_387 zm_169 rfl rfl ?_
  refine zt (pc' := 389) zdL_388 zm_169 rfl rfl ?_
  refine zt (pc' := 390) zdL_389 zm_169 rfl rfl ?_
  refine zev_ialdX (pc' := 391) zdL_390 zm_169 rfl (zB_0 zx4_Rm.2.2.2.1) (by decide) ?_
  refine zt_V (pc' := 394) zdL_391 zm_169 rfl zq_8_49 rfl (Nat.le_of_ble_eq_true rfl) (zB_c zx4_1) zqv_8_49_4 (by decide) rfl (zmet_ov zx4_n h1) ?_
  refine zt (pc' := 395) zdL_394 zm_169 rfl rfl ?_
  refine zt (pc' := 396) zdL_395 zm_169 rfl rfl ?_
  refine zt (pc' := 397) zdL_396 zm_169 rfl rfl ?_
  refine zt (pc' := 398) zdL_397 zm_169 rfl rfl ?_
  refine zt (pc' := 399) zdL_398 zm_169 rfl rfl ?_
  refine zev_ialdX (pc' := 400) zdL_399 zm_169 rfl (zB_0 q1.2.2.2.1) (by decide) ?_
  refine zt (pc' := 401) zdL_400 zm_169 rfl rfl ?_
  refine zt (pc' := 402) zdL_401 zm_169 rfl rfl ?_
  refine zt (pc' := 403) zdL_402 zm_169 rfl rfl ?_
  refine zt (pc' := 404) zdL_403 zm_169 rfl rfl ?_
  refine zev_ialdX (pc' := 405) zdL_404 zm_169 rfl (zB_0 q1.2.2.2.1) (by decide) ?_
  refine zt_V (pc' := 408) zdL_405 zm_169 rfl zq_8_52 rfl (Nat.le_of_ble_eq_true rfl) (zB_c h9) zqv_8_52_5 (by decide) rfl (zmet_ov q1.1 h2) ?_
  refine zt_icT (tgt := 822) (pc' := 411) zdL_408 zm_169 rfl rfl (zeq rfl) ?_
  refine zt (pc' := 825) zdL_822 zm_169 rfl rfl ?_
  refine zt (pc' := 18) zdL_825 zm_169 rfl rfl ?_
  exact zl_out (zB_0 q2.2.2.2.1) (by decide)
theorem zl_closure {xs : Nat → Int32} (h : zP 76 111 [.int (xs 1), .int (xs 2)]) : ∃ w', zev 41 169 413 [some (.ref 0), some (.ref 1), some (.ref 9), some (.int 0)] [] (zov (zB 5 xs) zx4) (some (.int 1)) w' ∧ w'.2.1 ≤ 600000 ∧ w'.2.2 ≤ 7302250 := by
  obtain ⟨v, w1, w2, h1, h2, q1, q2⟩ := h
  obtain ⟨fs, h9⟩ := q1.2.2.2.2
  refine ⟨zov (zB 5 xs) w2, ?_, q2.2.1, q2.2.2.1⟩
  refine zt (pc' := 414) zdL_413 zm_169 rfl rfl ?_
  refine zt (pc' := 415) zdL_414 zm_169 rfl rfl ?_
  refine zt (pc' := 416) zdL_415 zm_169 rfl rfl ?_
  refine zt (pc' := 417) zdL_416 zm_169 rfl rfl ?_
  refine zt (pc' := 418) zdL_417 zm_169 rfl rfl ?_
  refine zev_ialdX (pc' := 419) zdL_418 zm_169 rfl (zB_0 zx4_Rm.2.2.2.1) (by decide) ?_
  refine zt (pc' := 420) zdL_419 zm_169 rfl rfl ?_
  refine zt (pc' := 421) zdL_420 zm_169 rfl rfl ?_
  refine zt (pc' := 422) zdL_421 zm_169 rfl rfl ?_
  refine zt (pc' := 423) zdL_422 zm_169 rfl rfl ?_
  refine zev_ialdX (pc' := 424) zdL_423 zm_169 rfl (zB_0 zx4_Rm.2.2.2.1) (by decide) ?_
  refine zt_V (pc' := 427) zdL_424 zm_169 rfl zq_8_53 rfl (Nat.le_of_ble_eq_true rfl) (zB_c zx4_1) zqv_8_53_4 (by decide) rfl (zmet_ov zx4_n h1) ?_
  refine zt (pc' := 428) zdL_427 zm_169 rfl rfl ?_
  refine zt (pc' := 429) zdL_428 zm_169 rfl rfl ?_
  refine zt (pc' := 430) zdL_429 zm_169 rfl rfl ?_
  refine zt (pc' := 431) zdL_430 zm_169 rfl rfl ?_
  refine zt (pc' := 432) zdL_431 zm_169 rfl rfl ?_
  refine zev_ialdX (pc' := 433) zdL_432 zm_169 rfl (zB_0 q1.2.2.2.1) (by decide) ?_
  refine zt (pc' := 434) zdL_433 zm_169 rfl rfl ?_
  refine zt (pc' := 435) zdL_434 zm_169 rfl rfl ?_
  refine zt (pc' := 436) zdL_435 zm_169 rfl rfl ?_
  refine zt (pc' := 437) zdL_436 zm_169 rfl rfl ?_
  refine zev_ialdX (pc' := 438) zdL_437 zm_169 rfl (zB_0 q1.2.2.2.1) (by decide) ?_
  refine zt_V (pc' := 441) zdL_438 zm_169 rfl zq_8_56 rfl (Nat.le_of_ble_eq_true rfl) (zB_c h9) zqv_8_56_5 (by decide) rfl (zmet_ov q1.1 h2) ?_
  refine zt_icT (tgt := 822) (pc' := 444) zdL_441 zm_169 rfl rfl (zeq rfl) ?_
  refine zt (pc' := 825) zdL_822 zm_169 rfl rfl ?_
  refine zt (pc' := 18) zdL_825 zm_169 rfl rfl ?_
  exact zl_out (zB_0 q2.2.2.2.1) (by decide)
theorem zl_implied {xs : Nat → Int32} (h : zP 82 124 [.int (xs 1), .int (xs 2), .int (xs 3), .int (xs 4)]) : ∃ w', zev 41 169 446 [some (.ref 0), some (.ref 1), some (.ref 9), some (.int 0)] [] (zov (zB 5 xs) zx4) (some (.int 1)) w' ∧ w'.2.1 ≤ 600000 ∧ w'.2.2 ≤ 7302250 := by
  obtain ⟨v, w1, w2, h1, h2, q1, q2⟩ := h
  obtain ⟨fs, h9⟩ := q1.2.2.2.2
  refine ⟨zov (zB 5 xs) w2, ?_, q2.2.1, q2.2.2.1⟩
  refine zt (pc' := 447) zdL_446 zm_169 rfl rfl ?_
  refine zt (pc' := 448) zdL_447 zm_169 rfl rfl ?_
  refine zt (pc' := 449) zdL_448 zm_169 rfl rfl ?_
  refine zt (pc' := 450) zdL_449 zm_169 rfl rfl ?_
  refine zt (pc' := 451) zdL_450 zm_169 rfl rfl ?_
  refine zev_ialdX (pc' := 452) zdL_451 zm_169 rfl (zB_0 zx4_Rm.2.2.2.1) (by decide) ?_
  refine zt (pc' := 453) zdL_452 zm_169 rfl rfl ?_
  refine zt (pc' := 454) zdL_453 zm_169 rfl rfl ?_
  refine zt (pc' := 455) zdL_454 zm_169 rfl rfl ?_
  refine zt (pc' := 456) zdL_455 zm_169 rfl rfl ?_
  refine zev_ialdX (pc' := 457) zdL_456 zm_169 rfl (zB_0 zx4_Rm.2.2.2.1) (by decide) ?_
  refine zt (pc' := 458) zdL_457 zm_169 rfl rfl ?_
  refine zt (pc' := 459) zdL_458 zm_169 rfl rfl ?_
  refine zt (pc' := 460) zdL_459 zm_169 rfl rfl ?_
  refine zt (pc' := 461) zdL_460 zm_169 rfl rfl ?_
  refine zev_ialdX (pc' := 462) zdL_461 zm_169 rfl (zB_0 zx4_Rm.2.2.2.1) (by decide) ?_
  refine zt (pc' := 463) zdL_462 zm_169 rfl rfl ?_
  refine zt (pc' := 464) zdL_463 zm_169 rfl rfl ?_
  refine zt (pc' := 465) zdL_464 zm_169 rfl rfl ?_
  refine zt (pc' := 466) zdL_465 zm_169 rfl rfl ?_
  refine zev_ialdX (pc' := 467) zdL_466 zm_169 rfl (zB_0 zx4_Rm.2.2.2.1) (by decide) ?_
  refine zt_V (pc' := 470) zdL_467 zm_169 rfl zq_8_57 rfl (Nat.le_of_ble_eq_true rfl) (zB_c zx4_1) zqv_8_57_4 (by decide) rfl (zmet_ov zx4_n h1) ?_
  refine zt (pc' := 471) zdL_470 zm_169 rfl rfl ?_
  refine zt (pc' := 472) zdL_471 zm_169 rfl rfl ?_
  refine zt (pc' := 473) zdL_472 zm_169 rfl rfl ?_
  refine zt (pc' := 474) zdL_473 zm_169 rfl rfl ?_
  refine zt (pc' := 475) zdL_474 zm_169 rfl rfl ?_
  refine zev_ialdX (pc' := 476) zdL_475 zm_169 rfl (zB_0 q1.2.2.2.1) (by decide) ?_
  refine zt (pc' := 477) zdL_476 zm_169 rfl rfl ?_
  refine zt (pc' := 478) zdL_477 zm_169 rfl rfl ?_
  refine zt (pc' := 479) zdL_478 zm_169 rfl rfl ?_
  refine zt (pc' := 480) zdL_479 zm_169 rfl rfl ?_
  refine zev_ialdX (pc' := 481) zdL_480 zm_169 rfl (zB_0 q1.2.2.2.1) (by decide) ?_
  refine zt (pc' := 482) zdL_481 zm_169 rfl rfl ?_
  refine zt (pc' := 483) zdL_482 zm_169 rfl rfl ?_
  refine zt (pc' := 484) zdL_483 zm_169 rfl rfl ?_
  refine zt (pc' := 485) zdL_484 zm_169 rfl rfl ?_
  refine zev_ialdX (pc' := 486) zdL_485 zm_169 rfl (zB_0 q1.2.2.2.1) (by decide) ?_
  refine zt (pc' := 487) zdL_486 zm_169 rfl rfl ?_
  refine zt (pc' := 488) zdL_487 zm_169 rfl rfl ?_
  refine zt (pc' := 489) zdL_488 zm_169 rfl rfl ?_
  refine zt (pc' := 490) zdL_489 zm_169 rfl rfl ?_
  refine zev_ialdX (pc' := 491) zdL_490 zm_169 rfl (zB_0 q1.2.2.2.1) (by decide) ?_
  refine zt_V (pc' := 494) zdL_491 zm_169 rfl zq_8_60 rfl (Nat.le_of_ble_eq_true rfl) (zB_c h9) zqv_8_60_5 (by decide) rfl (zmet_ov q1.1 h2) ?_
  refine zt_icT (tgt := 822) (pc' := 497) zdL_494 zm_169 rfl rfl (zeq rfl) ?_
  refine zt (pc' := 825) zdL_822 zm_169 rfl rfl ?_
  refine zt (pc' := 18) zdL_825 zm_169 rfl rfl ?_
  exact zl_out (zB_0 q2.2.2.2.1) (by decide)
theorem zl_rigid {xs : Nat → Int32} (h : zP 94 158 [.int (xs 1)]) : ∃ w', zev 41 169 499 [some (.ref 0), some (.ref 1), some (.ref 9), some (.int 0)] [] (zov (zB 5 xs) zx4) (some (.int 1)) w' ∧ w'.2.1 ≤ 600000 ∧ w'.2.2 ≤ 7302250 := by
  obtain ⟨v, w1, w2, h1, h2, q1, q2⟩ := h
  obtain ⟨fs, h9⟩ := q1.2.2.2.2
  refine ⟨zov (zB 5 xs) w2, ?_, q2.2.1, q2.2.2.1⟩
  refine zt (pc' := 500) zdL_499 zm_169 rfl rfl ?_
  refine zt (pc' := 501) zdL_500 zm_169 rfl rfl ?_
  refine zt (pc' := 502) zdL_501 zm_169 rfl rfl ?_
  refine zt (pc' := 503) zdL_502 zm_169 rfl rfl ?_
  refine zt (pc' := 504) zdL_503 zm_169 rfl rfl ?_
  refine zev_ialdX (pc' := 505) zdL_504 zm_169 rfl (zB_0 zx4_Rm.2.2.2.1) (by decide) ?_
  refine zt_V (pc' := 508) zdL_505 zm_169 rfl zq_8_61 rfl (Nat.le_of_ble_eq_true rfl) (zB_c zx4_1) zqv_8_61_4 (by decide) rfl (zmet_ov zx4_n h1) ?_
  refine zt (pc' := 509) zdL_508 zm_169 rfl rfl ?_
  refine zt (pc' := 510) zdL_509 zm_169 rfl rfl ?_
  refine zt (pc' := 511) zdL_510 zm_169 rfl rfl ?_
  refine zt (pc' := 512) zdL_511 zm_169 rfl rfl ?_
  refine zt (pc' := 513) zdL_512 zm_169 rfl rfl ?_
  refine zev_ialdX (pc' := 514) zdL_513 zm_169 rfl (zB_0 q1.2.2.2.1) (by decide) ?_
  refine zt_V (pc' := 517) zdL_514 zm_169 rfl zq_8_64 rfl (Nat.le_of_ble_eq_true rfl) (zB_c h9) zqv_8_64_5 (by decide) rfl (zmet_ov q1.1 h2) ?_
  refine zt_icT (tgt := 822) (pc' := 520) zdL_517 zm_169 rfl rfl (zeq rfl) ?_
  refine zt (pc' := 825) zdL_822 zm_169 rfl rfl ?_
  refine zt (pc' := 18) zdL_825 zm_169 rfl rfl ?_
  exact zl_out (zB_0 q2.2.2.2.1) (by decide)
theorem zl_lacks {xs : Nat → Int32} (h : zP 87 142 [.int (xs 1)]) : ∃ w', zev 41 169 522 [some (.ref 0), some (.ref 1), some (.ref 9), some (.int 0)] [] (zov (zB 5 xs) zx4) (some (.int 1)) w' ∧ w'.2.1 ≤ 600000 ∧ w'.2.2 ≤ 7302250 := by
  obtain ⟨v, w1, w2, h1, h2, q1, q2⟩ := h
  obtain ⟨fs, h9⟩ := q1.2.2.2.2
  refine ⟨zov (zB 5 xs) w2, ?_, q2.2.1, q2.2.2.1⟩
  refine zt (pc' := 523) zdL_522 zm_169 rfl rfl ?_
  refine zt (pc' := 524) zdL_523 zm_169 rfl rfl ?_
  refine zt (pc' := 525) zdL_524 zm_169 rfl rfl ?_
  refine zt (pc' := 526) zdL_525 zm_169 rfl rfl ?_
  refine zt (pc' := 527) zdL_526 zm_169 rfl rfl ?_
  refine zev_ialdX (pc' := 528) zdL_527 zm_169 rfl (zB_0 zx4_Rm.2.2.2.1) (by decide) ?_
  refine zt_V (pc' := 531) zdL_528 zm_169 rfl zq_8_65 rfl (Nat.le_of_ble_eq_true rfl) (zB_c zx4_1) zqv_8_65_4 (by decide) rfl (zmet_ov zx4_n h1) ?_
  refine zt (pc' := 532) zdL_531 zm_169 rfl rfl ?_
  refine zt (pc' := 533) zdL_532 zm_169 rfl rfl ?_
  refine zt (pc' := 534) zdL_533 zm_169 rfl rfl ?_
  refine zt (pc' := 535) zdL_534 zm_169 rfl rfl ?_
  refine zt (pc' := 536) zdL_535 zm_169 rfl rfl ?_
  refine zev_ialdX (pc' := 537) zdL_536 zm_169 rfl (zB_0 q1.2.2.2.1) (by decide) ?_
  refine zt_V (pc' := 540) zdL_537 zm_169 rfl zq_8_68 rfl (Nat.le_of_ble_eq_true rfl) (zB_c h9) zqv_8_68_5 (by decide) rfl (zmet_ov q1.1 h2) ?_
  refine zt_icT (tgt := 822) (pc' := 543) zdL_540 zm_169 rfl rfl (zeq rfl) ?_
  refine zt (pc' := 825) zdL_822 zm_169 rfl rfl ?_
  refine zt (pc' := 18) zdL_825 zm_169 rfl rfl ?_
  exact zl_out (zB_0 q2.2.2.2.1) (by decide)
theorem zl_spare {xs : Nat → Int32} (h : zP 96 160 [.int (xs 1)]) : ∃ w', zev 41 169 545 [some (.ref 0), some (.ref 1), some (.ref 9), some (.int 0)] [] (zov (zB 5 xs) zx4) (some (.int 1)) w' ∧ w'.2.1 ≤ 600000 ∧ w'.2.2 ≤ 7302250 := by
  obtain ⟨v, w1, w2, h1, h2, q1, q2⟩ := h
  obtain ⟨fs, h9⟩ := q1.2.2.2.2
  refine ⟨zov (zB 5 xs) w2, ?_, q2.2.1, q2.2.2.1⟩
  refine zt (pc' := 546) zdL_545 zm_169 rfl rfl ?_
  refine zt (pc' := 547) zdL_546 zm_169 rfl rfl ?_
  refine zt (pc' := 548) zdL_547 zm_169 rfl rfl ?_
  refine zt (pc' := 549) zdL_548 zm_169 rfl rfl ?_
  refine zt (pc' := 550) zdL_549 zm_169 rfl rfl ?_
  refine zev_ialdX (pc' := 551) zdL_550 zm_169 rfl (zB_0 zx4_Rm.2.2.2.1) (by decide) ?_
  refine zt_V (pc' := 554) zdL_551 zm_169 rfl zq_8_69 rfl (Nat.le_of_ble_eq_true rfl) (zB_c zx4_1) zqv_8_69_4 (by decide) rfl (zmet_ov zx4_n h1) ?_
  refine zt (pc' := 555) zdL_554 zm_169 rfl rfl ?_
  refine zt (pc' := 556) zdL_555 zm_169 rfl rfl ?_
  refine zt (pc' := 557) zdL_556 zm_169 rfl rfl ?_
  refine zt (pc' := 558) zdL_557 zm_169 rfl rfl ?_
  refine zt (pc' := 559) zdL_558 zm_169 rfl rfl ?_
  refine zev_ialdX (pc' := 560) zdL_559 zm_169 rfl (zB_0 q1.2.2.2.1) (by decide) ?_
  refine zt_V (pc' := 563) zdL_560 zm_169 rfl zq_8_72 rfl (Nat.le_of_ble_eq_true rfl) (zB_c h9) zqv_8_72_5 (by decide) rfl (zmet_ov q1.1 h2) ?_
  refine zt_icT (tgt := 822) (pc' := 566) zdL_563 zm_169 rfl rfl (zeq rfl) ?_
  refine zt (pc' := 825) zdL_822 zm_169 rfl rfl ?_
  refine zt (pc' := 18) zdL_825 zm_169 rfl rfl ?_
  exact zl_out (zB_0 q2.2.2.2.1) (by decide)
theorem zl_many {xs : Nat → Int32} (h : zP 90 144 [.int (xs 1), .int (xs 2)]) : ∃ w', zev 41 169 568 [some (.ref 0), some (.ref 1), some (.ref 9), some (.int 0)] [] (zov (zB 5 xs) zx4) (some (.int 1)) w' ∧ w'.2.1 ≤ 600000 ∧ w'.2.2 ≤ 7302250 := by
  obtain ⟨v, w1, w2, h1, h2, q1, q2⟩ := h
  obtain ⟨fs, h9⟩ := q1.2.2.2.2
  refine ⟨zov (zB 5 xs) w2, ?_, q2.2.1, q2.2.2.1⟩
  refine zt (pc' := 569) zdL_568 zm_169 rfl rfl ?_
  refine zt (pc' := 570) zdL_569 zm_169 rfl rfl ?_
  refine zt (pc' := 571) zdL_570 zm_169 rfl rfl ?_
  refine zt (pc' := 572) zdL_571 zm_169 rfl rfl ?_
  refine zt (pc' := 573) zdL_572 zm_169 rfl rfl ?_
  refine zev_ialdX (pc' := 574) zdL_573 zm_169 rfl (zB_0 zx4_Rm.2.2.2.1) (by decide) ?_
  refine zt (pc' := 575) zdL_574 zm_169 rfl rfl ?_
  refine zt (pc' := 576) zdL_575 zm_169 rfl rfl ?_
  refine zt (pc' := 577) zdL_576 zm_169 rfl rfl ?_
  refine zt (pc' := 578) zdL_577 zm_169 rfl rfl ?_
  refine zev_ialdX (pc' := 579) zdL_578 zm_169 rfl (zB_0 zx4_Rm.2.2.2.1) (by decide) ?_
  refine zt_V (pc' := 582) zdL_579 zm_169 rfl zq_8_73 rfl (Nat.le_of_ble_eq_true rfl) (zB_c zx4_1) zqv_8_73_4 (by decide) rfl (zmet_ov zx4_n h1) ?_
  refine zt (pc' := 583) zdL_582 zm_169 rfl rfl ?_
  refine zt (pc' := 584) zdL_583 zm_169 rfl rfl ?_
  refine zt (pc' := 585) zdL_584 zm_169 rfl rfl ?_
  refine zt (pc' := 586) zdL_585 zm_169 rfl rfl ?_
  refine zt (pc' := 587) zdL_586 zm_169 rfl rfl ?_
  refine zev_ialdX (pc' := 588) zdL_587 zm_169 rfl (zB_0 q1.2.2.2.1) (by decide) ?_
  refine zt (pc' := 589) zdL_588 zm_169 rfl rfl ?_
  refine zt (pc' := 590) zdL_589 zm_169 rfl rfl ?_
  refine zt (pc' := 591) zdL_590 zm_169 rfl rfl ?_
  refine zt (pc' := 592) zdL_591 zm_169 rfl rfl ?_
  refine zev_ialdX (pc' := 593) zdL_592 zm_169 rfl (zB_0 q1.2.2.2.1) (by decide) ?_
  refine zt_V (pc' := 596) zdL_593 zm_169 rfl zq_8_76 rfl (Nat.le_of_ble_eq_true rfl) (zB_c h9) zqv_8_76_5 (by decide) rfl (zmet_ov q1.1 h2) ?_
  refine zt_icT (tgt := 822) (pc' := 599) zdL_596 zm_169 rfl rfl (zeq rfl) ?_
  refine zt (pc' := 825) zdL_822 zm_169 rfl rfl ?_
  refine zt (pc' := 18) zdL_825 zm_169 rfl rfl ?_
  exact zl_out (zB_0 q2.2.2.2.1) (by decide)
theorem zl_told {xs : Nat → Int32} (h : zP 99 166 [.int (xs 1), .int (xs 2), .int (xs 3)]) : ∃ w', zev 41 169 601 [some (.ref 0), some (.ref 1), some (.ref 9), some (.int 0)] [] (zov (zB 5 xs) zx4) (some (.int 1)) w' ∧ w'.2.1 ≤ 600000 ∧ w'.2.2 ≤ 7302250 := by
  obtain ⟨v, w1, w2, h1, h2, q1, q2⟩ := h
  obtain ⟨fs, h9⟩ := q1.2.2.2.2
  refine ⟨zov (zB 5 xs) w2, ?_, q2.2.1, q2.2.2.1⟩
  refine zt (pc' := 602) zdL_601 zm_169 rfl rfl ?_
  refine zt (pc' := 603) zdL_602 zm_169 rfl rfl ?_
  refine zt (pc' := 604) zdL_603 zm_169 rfl rfl ?_
  refine zt (pc' := 605) zdL_604 zm_169 rfl rfl ?_
  refine zt (pc' := 606) zdL_605 zm_169 rfl rfl ?_
  refine zev_ialdX (pc' := 607) zdL_606 zm_169 rfl (zB_0 zx4_Rm.2.2.2.1) (by decide) ?_
  refine zt (pc' := 608) zdL_607 zm_169 rfl rfl ?_
  refine zt (pc' := 609) zdL_608 zm_169 rfl rfl ?_
  refine zt (pc' := 610) zdL_609 zm_169 rfl rfl ?_
  refine zt (pc' := 611) zdL_610 zm_169 rfl rfl ?_
  refine zev_ialdX (pc' := 612) zdL_611 zm_169 rfl (zB_0 zx4_Rm.2.2.2.1) (by decide) ?_
  refine zt (pc' := 613) zdL_612 zm_169 rfl rfl ?_
  refine zt (pc' := 614) zdL_613 zm_169 rfl rfl ?_
  refine zt (pc' := 615) zdL_614 zm_169 rfl rfl ?_
  refine zt (pc' := 616) zdL_615 zm_169 rfl rfl ?_
  refine zev_ialdX (pc' := 617) zdL_616 zm_169 rfl (zB_0 zx4_Rm.2.2.2.1) (by decide) ?_
  refine zt_V (pc' := 620) zdL_617 zm_169 rfl zq_8_77 rfl (Nat.le_of_ble_eq_true rfl) (zB_c zx4_1) zqv_8_77_4 (by decide) rfl (zmet_ov zx4_n h1) ?_
  refine zt (pc' := 621) zdL_620 zm_169 rfl rfl ?_
  refine zt (pc' := 622) zdL_621 zm_169 rfl rfl ?_
  refine zt (pc' := 623) zdL_622 zm_169 rfl rfl ?_
  refine zt (pc' := 624) zdL_623 zm_169 rfl rfl ?_
  refine zt (pc' := 625) zdL_624 zm_169 rfl rfl ?_
  refine zev_ialdX (pc' := 626) zdL_625 zm_169 rfl (zB_0 q1.2.2.2.1) (by decide) ?_
  refine zt (pc' := 627) zdL_626 zm_169 rfl rfl ?_
  refine zt (pc' := 628) zdL_627 zm_169 rfl rfl ?_
  refine zt (pc' := 629) zdL_628 zm_169 rfl rfl ?_
  refine zt (pc' := 630) zdL_629 zm_169 rfl rfl ?_
  refine zev_ialdX (pc' := 631) zdL_630 zm_169 rfl (zB_0 q1.2.2.2.1) (by decide) ?_
  refine zt (pc' := 632) zdL_631 zm_169 rfl rfl ?_
  refine zt (pc' := 633) zdL_632 zm_169 rfl rfl ?_
  refine zt (pc' := 634) zdL_633 zm_169 rfl rfl ?_
  refine zt (pc' := 635) zdL_634 zm_169 rfl rfl ?_
  refine zev_ialdX (pc' := 636) zdL_635 zm_169 rfl (zB_0 q1.2.2.2.1) (by decide) ?_
  refine zt_V (pc' := 639) zdL_636 zm_169 rfl zq_8_81 rfl (Nat.le_of_ble_eq_true rfl) (zB_c h9) zqv_8_81_5 (by decide) rfl (zmet_ov q1.1 h2) ?_
  refine zt_icT (tgt := 822) (pc' := 642) zdL_639 zm_169 rfl rfl (zeq rfl) ?_
  refine zt (pc' := 825) zdL_822 zm_169 rfl rfl ?_
  refine zt (pc' := 18) zdL_825 zm_169 rfl rfl ?_
  exact zl_out (zB_0 q2.2.2.2.1) (by decide)
theorem zl_coefficient {xs : Nat → Int32} (h : zP 78 114 [.int (xs 1), .int (xs 2), .int (xs 3)]) : ∃ w', zev 41 169 644 [some (.ref 0), some (.ref 1), some (.ref 9), some (.int 0)] [] (zov (zB 5 xs) zx4) (some (.int 1)) w' ∧ w'.2.1 ≤ 600000 ∧ w'.2.2 ≤ 7302250 := by
  obtain ⟨v, w1, w2, h1, h2, q1, q2⟩ := h
  obtain ⟨fs, h9⟩ := q1.2.2.2.2
  refine ⟨zov (zB 5 xs) w2, ?_, q2.2.1, q2.2.2.1⟩
  refine zt (pc' := 645) zdL_644 zm_169 rfl rfl ?_
  refine zt (pc' := 646) zdL_645 zm_169 rfl rfl ?_
  refine zt (pc' := 647) zdL_646 zm_169 rfl rfl ?_
  refine zt (pc' := 648) zdL_647 zm_169 rfl rfl ?_
  refine zt (pc' := 649) zdL_648 zm_169 rfl rfl ?_
  refine zev_ialdX (pc' := 650) zdL_649 zm_169 rfl (zB_0 zx4_Rm.2.2.2.1) (by decide) ?_
  refine zt (pc' := 651) zdL_650 zm_169 rfl rfl ?_
  refine zt (pc' := 652) zdL_651 zm_169 rfl rfl ?_
  refine zt (pc' := 653) zdL_652 zm_169 rfl rfl ?_
  refine zt (pc' := 654) zdL_653 zm_169 rfl rfl ?_
  refine zev_ialdX (pc' := 655) zdL_654 zm_169 rfl (zB_0 zx4_Rm.2.2.2.1) (by decide) ?_
  refine zt (pc' := 656) zdL_655 zm_169 rfl rfl ?_
  refine zt (pc' := 657) zdL_656 zm_169 rfl rfl ?_
  refine zt (pc' := 658) zdL_657 zm_169 rfl rfl ?_
  refine zt (pc' := 659) zdL_658 zm_169 rfl rfl ?_
  refine zev_ialdX (pc' := 660) zdL_659 zm_169 rfl (zB_0 zx4_Rm.2.2.2.1) (by decide) ?_
  refine zt_V (pc' := 663) zdL_660 zm_169 rfl zq_8_82 rfl (Nat.le_of_ble_eq_true rfl) (zB_c zx4_1) zqv_8_82_4 (by decide) rfl (zmet_ov zx4_n h1) ?_
  refine zt (pc' := 664) zdL_663 zm_169 rfl rfl ?_
  refine zt (pc' := 665) zdL_664 zm_169 rfl rfl ?_
  refine zt (pc' := 666) zdL_665 zm_169 rfl rfl ?_
  refine zt (pc' := 667) zdL_666 zm_169 rfl rfl ?_
  refine zt (pc' := 668) zdL_667 zm_169 rfl rfl ?_
  refine zev_ialdX (pc' := 669) zdL_668 zm_169 rfl (zB_0 q1.2.2.2.1) (by decide) ?_
  refine zt (pc' := 670) zdL_669 zm_169 rfl rfl ?_
  refine zt (pc' := 671) zdL_670 zm_169 rfl rfl ?_
  refine zt (pc' := 672) zdL_671 zm_169 rfl rfl ?_
  refine zt (pc' := 673) zdL_672 zm_169 rfl rfl ?_
  refine zev_ialdX (pc' := 674) zdL_673 zm_169 rfl (zB_0 q1.2.2.2.1) (by decide) ?_
  refine zt (pc' := 675) zdL_674 zm_169 rfl rfl ?_
  refine zt (pc' := 676) zdL_675 zm_169 rfl rfl ?_
  refine zt (pc' := 677) zdL_676 zm_169 rfl rfl ?_
  refine zt (pc' := 678) zdL_677 zm_169 rfl rfl ?_
  refine zev_ialdX (pc' := 679) zdL_678 zm_169 rfl (zB_0 q1.2.2.2.1) (by decide) ?_
  refine zt_V (pc' := 682) zdL_679 zm_169 rfl zq_8_85 rfl (Nat.le_of_ble_eq_true rfl) (zB_c h9) zqv_8_85_5 (by decide) rfl (zmet_ov q1.1 h2) ?_
  refine zt_icT (tgt := 822) (pc' := 685) zdL_682 zm_169 rfl rfl (zeq rfl) ?_
  refine zt (pc' := 825) zdL_822 zm_169 rfl rfl ?_
  refine zt (pc' := 18) zdL_825 zm_169 rfl rfl ?_
  exact zl_out (zB_0 q2.2.2.2.1) (by decide)
theorem zl_cluster {xs : Nat → Int32} (h : zP 77 113 [.int (xs 1), .int (xs 2)]) : ∃ w', zev 41 169 687 [some (.ref 0), some (.ref 1), some (.ref 9), some (.int 0)] [] (zov (zB 5 xs) zx4) (some (.int 1)) w' ∧ w'.2.1 ≤ 600000 ∧ w'.2.2 ≤ 7302250 := by
  obtain ⟨v, w1, w2, h1, h2, q1, q2⟩ := h
  obtain ⟨fs, h9⟩ := q1.2.2.2.2
  refine ⟨zov (zB 5 xs) w2, ?_, q2.2.1, q2.2.2.1⟩
  refine zt (pc' := 688) zdL_687 zm_169 rfl rfl ?_
  refine zt (pc' := 689) zdL_688 zm_169 rfl rfl ?_
  refine zt (pc' := 690) zdL_689 zm_169 rfl rfl ?_
  refine zt (pc' := 691) zdL_690 zm_169 rfl rfl ?_
  refine zt (pc' := 692) zdL_691 zm_169 rfl rfl ?_
  refine zev_ialdX (pc' := 693) zdL_692 zm_169 rfl (zB_0 zx4_Rm.2.2.2.1) (by decide) ?_
  refine zt (pc' := 694) zdL_693 zm_169 rfl rfl ?_
  refine zt (pc' := 695) zdL_694 zm_169 rfl rfl ?_
  refine zt (pc' := 696) zdL_695 zm_169 rfl rfl ?_
  refine zt (pc' := 697) zdL_696 zm_169 rfl rfl ?_
  refine zev_ialdX (pc' := 698) zdL_697 zm_169 rfl (zB_0 zx4_Rm.2.2.2.1) (by decide) ?_
  refine zt_V (pc' := 701) zdL_698 zm_169 rfl zq_8_86 rfl (Nat.le_of_ble_eq_true rfl) (zB_c zx4_1) zqv_8_86_4 (by decide) rfl (zmet_ov zx4_n h1) ?_
  refine zt (pc' := 702) zdL_701 zm_169 rfl rfl ?_
  refine zt (pc' := 703) zdL_702 zm_169 rfl rfl ?_
  refine zt (pc' := 704) zdL_703 zm_169 rfl rfl ?_
  refine zt (pc' := 705) zdL_704 zm_169 rfl rfl ?_
  refine zt (pc' := 706) zdL_705 zm_169 rfl rfl ?_
  refine zev_ialdX (pc' := 707) zdL_706 zm_169 rfl (zB_0 q1.2.2.2.1) (by decide) ?_
  refine zt (pc' := 708) zdL_707 zm_169 rfl rfl ?_
  refine zt (pc' := 709) zdL_708 zm_169 rfl rfl ?_
  refine zt (pc' := 710) zdL_709 zm_169 rfl rfl ?_
  refine zt (pc' := 711) zdL_710 zm_169 rfl rfl ?_
  refine zev_ialdX (pc' := 712) zdL_711 zm_169 rfl (zB_0 q1.2.2.2.1) (by decide) ?_
  refine zt_V (pc' := 715) zdL_712 zm_169 rfl zq_8_89 rfl (Nat.le_of_ble_eq_true rfl) (zB_c h9) zqv_8_89_5 (by decide) rfl (zmet_ov q1.1 h2) ?_
  refine zt_icT (tgt := 822) (pc' := 718) zdL_715 zm_169 rfl rfl (zeq rfl) ?_
  refine zt (pc' := 825) zdL_822 zm_169 rfl rfl ?_
  refine zt (pc' := 18) zdL_825 zm_169 rfl rfl ?_
  exact zl_out (zB_0 q2.2.2.2.1) (by decide)
theorem zl_stressed {xs : Nat → Int32} (h : zP 98 162 [.int (xs 1), .int (xs 2), .int (xs 3)]) : ∃ w', zev 41 169 720 [some (.ref 0), some (.ref 1), some (.ref 9), some (.int 0)] [] (zov (zB 5 xs) zx4) (some (.int 1)) w' ∧ w'.2.1 ≤ 600000 ∧ w'.2.2 ≤ 7302250 := by
  obtain ⟨v, w1, w2, h1, h2, q1, q2⟩ := h
  obtain ⟨fs, h9⟩ := q1.2.2.2.2
  refine ⟨zov (zB 5 xs) w2, ?_, q2.2.1, q2.2.2.1⟩
  refine zt (pc' := 721) zdL_720 zm_169 rfl rfl ?_
  refine zt (pc' := 722) zdL_721 zm_169 rfl rfl ?_
  refine zt (pc' := 723) zdL_722 zm_169 rfl rfl ?_
  refine zt (pc' := 724) zdL_723 zm_169 rfl rfl ?_
  refine zt (pc' := 725) zdL_724 zm_169 rfl rfl ?_
  refine zev_ialdX (pc' := 726) zdL_725 zm_169 rfl (zB_0 zx4_Rm.2.2.2.1) (by decide) ?_
  refine zt (pc' := 727) zdL_726 zm_169 rfl rfl ?_
  refine zt (pc' := 728) zdL_727 zm_169 rfl rfl ?_
  refine zt (pc' := 729) zdL_728 zm_169 rfl rfl ?_
  refine zt (pc' := 730) zdL_729 zm_169 rfl rfl ?_
  refine zev_ialdX (pc' := 731) zdL_730 zm_169 rfl (zB_0 zx4_Rm.2.2.2.1) (by decide) ?_
  refine zt (pc' := 732) zdL_731 zm_169 rfl rfl ?_
  refine zt (pc' := 733) zdL_732 zm_169 rfl rfl ?_
  refine zt (pc' := 734) zdL_733 zm_169 rfl rfl ?_
  refine zt (pc' := 735) zdL_734 zm_169 rfl rfl ?_
  refine zev_ialdX (pc' := 736) zdL_735 zm_169 rfl (zB_0 zx4_Rm.2.2.2.1) (by decide) ?_
  refine zt_V (pc' := 739) zdL_736 zm_169 rfl zq_8_90 rfl (Nat.le_of_ble_eq_true rfl) (zB_c zx4_1) zqv_8_90_4 (by decide) rfl (zmet_ov zx4_n h1) ?_
  refine zt (pc' := 740) zdL_739 zm_169 rfl rfl ?_
  refine zt (pc' := 741) zdL_740 zm_169 rfl rfl ?_
  refine zt (pc' := 742) zdL_741 zm_169 rfl rfl ?_
  refine zt (pc' := 743) zdL_742 zm_169 rfl rfl ?_
  refine zt (pc' := 744) zdL_743 zm_169 rfl rfl ?_
  refine zev_ialdX (pc' := 745) zdL_744 zm_169 rfl (zB_0 q1.2.2.2.1) (by decide) ?_
  refine zt (pc' := 746) zdL_745 zm_169 rfl rfl ?_
  refine zt (pc' := 747) zdL_746 zm_169 rfl rfl ?_
  refine zt (pc' := 748) zdL_747 zm_169 rfl rfl ?_
  refine zt (pc' := 749) zdL_748 zm_169 rfl rfl ?_
  refine zev_ialdX (pc' := 750) zdL_749 zm_169 rfl (zB_0 q1.2.2.2.1) (by decide) ?_
  refine zt (pc' := 751) zdL_750 zm_169 rfl rfl ?_
  refine zt (pc' := 752) zdL_751 zm_169 rfl rfl ?_
  refine zt (pc' := 753) zdL_752 zm_169 rfl rfl ?_
  refine zt (pc' := 754) zdL_753 zm_169 rfl rfl ?_
  refine zev_ialdX (pc' := 755) zdL_754 zm_169 rfl (zB_0 q1.2.2.2.1) (by decide) ?_
  refine zt_V (pc' := 758) zdL_755 zm_169 rfl zq_8_93 rfl (Nat.le_of_ble_eq_true rfl) (zB_c h9) zqv_8_93_5 (by decide) rfl (zmet_ov q1.1 h2) ?_
  refine zt_icT (tgt := 822) (pc' := 761) zdL_758 zm_169 rfl rfl (zeq rfl) ?_
  refine zt (pc' := 825) zdL_822 zm_169 rfl rfl ?_
  refine zt (pc' := 18) zdL_825 zm_169 rfl rfl ?_
  exact zl_out (zB_0 q2.2.2.2.1) (by decide)
theorem zl_holds {xs : Nat → Int32} (h : zP 81 123 [.int (xs 1)]) : ∃ w', zev 41 169 763 [some (.ref 0), some (.ref 1), some (.ref 9), some (.int 0)] [] (zov (zB 5 xs) zx4) (some (.int 1)) w' ∧ w'.2.1 ≤ 600000 ∧ w'.2.2 ≤ 7302250 := by
  obtain ⟨v, w1, w2, h1, h2, q1, q2⟩ := h
  obtain ⟨fs, h9⟩ := q1.2.2.2.2
  refine ⟨zov (zB 5 xs) w2, ?_, q2.2.1, q2.2.2.1⟩
  refine zt (pc' := 764) zdL_763 zm_169 rfl rfl ?_
  refine zt (pc' := 765) zdL_764 zm_169 rfl rfl ?_
  refine zt (pc' := 766) zdL_765 zm_169 rfl rfl ?_
  refine zt (pc' := 767) zdL_766 zm_169 rfl rfl ?_
  refine zt (pc' := 768) zdL_767 zm_169 rfl rfl ?_
  refine zev_ialdX (pc' := 769) zdL_768 zm_169 rfl (zB_0 zx4_Rm.2.2.2.1) (by decide) ?_
  refine zt_V (pc' := 772) zdL_769 zm_169 rfl zq_8_94 rfl (Nat.le_of_ble_eq_true rfl) (zB_c zx4_1) zqv_8_94_4 (by decide) rfl (zmet_ov zx4_n h1) ?_
  refine zt (pc' := 773) zdL_772 zm_169 rfl rfl ?_
  refine zt (pc' := 774) zdL_773 zm_169 rfl rfl ?_
  refine zt (pc' := 775) zdL_774 zm_169 rfl rfl ?_
  refine zt (pc' := 776) zdL_775 zm_169 rfl rfl ?_
  refine zt (pc' := 777) zdL_776 zm_169 rfl rfl ?_
  refine zev_ialdX (pc' := 778) zdL_777 zm_169 rfl (zB_0 q1.2.2.2.1) (by decide) ?_
  refine zt_V (pc' := 781) zdL_778 zm_169 rfl zq_8_97 rfl (Nat.le_of_ble_eq_true rfl) (zB_c h9) zqv_8_97_5 (by decide) rfl (zmet_ov q1.1 h2) ?_
  refine zt_icT (tgt := 822) (pc' := 784) zdL_781 zm_169 rfl rfl (zeq rfl) ?_
  refine zt (pc' := 825) zdL_822 zm_169 rfl rfl ?_
  refine zt (pc' := 18) zdL_825 zm_169 rfl rfl ?_
  exact zl_out (zB_0 q2.2.2.2.1) (by decide)
theorem zl_built {xs : Nat → Int32} (h : zP 75 107 [.int (xs 1)]) : ∃ w', zev 41 169 786 [some (.ref 0), some (.ref 1), some (.ref 9), some (.int 0)] [] (zov (zB 5 xs) zx4) (some (.int 1)) w' ∧ w'.2.1 ≤ 600000 ∧ w'.2.2 ≤ 7302250 := by
  obtain ⟨v, w1, w2, h1, h2, q1, q2⟩ := h
  obtain ⟨fs, h9⟩ := q1.2.2.2.2
  refine ⟨zov (zB 5 xs) w2, ?_, q2.2.1, q2.2.2.1⟩
  refine zt (pc' := 787) zdL_786 zm_169 rfl rfl ?_
  refine zt (pc' := 788) zdL_787 zm_169 rfl rfl ?_
  refine zt (pc' := 789) zdL_788 zm_169 rfl rfl ?_
  refine zt (pc' := 790) zdL_789 zm_169 rfl rfl ?_
  refine zt (pc' := 791) zdL_790 zm_169 rfl rfl ?_
  refine zev_ialdX (pc' := 792) zdL_791 zm_169 rfl (zB_0 zx4_Rm.2.2.2.1) (by decide) ?_
  refine zt_V (pc' := 795) zdL_792 zm_169 rfl zq_8_98 rfl (Nat.le_of_ble_eq_true rfl) (zB_c zx4_1) zqv_8_98_4 (by decide) rfl (zmet_ov zx4_n h1) ?_
  refine zt (pc' := 796) zdL_795 zm_169 rfl rfl ?_
  refine zt (pc' := 797) zdL_796 zm_169 rfl rfl ?_
  refine zt (pc' := 798) zdL_797 zm_169 rfl rfl ?_
  refine zt (pc' := 799) zdL_798 zm_169 rfl rfl ?_
  refine zt (pc' := 800) zdL_799 zm_169 rfl rfl ?_
  refine zev_ialdX (pc' := 801) zdL_800 zm_169 rfl (zB_0 q1.2.2.2.1) (by decide) ?_
  refine zt_V (pc' := 804) zdL_801 zm_169 rfl zq_8_101 rfl (Nat.le_of_ble_eq_true rfl) (zB_c h9) zqv_8_101_5 (by decide) rfl (zmet_ov q1.1 h2) ?_
  refine zt_icT (tgt := 822) (pc' := 807) zdL_804 zm_169 rfl rfl (zeq rfl) ?_
  refine zt (pc' := 825) zdL_822 zm_169 rfl rfl ?_
  refine zt (pc' := 18) zdL_825 zm_169 rfl rfl ?_
  exact zl_out (zB_0 q2.2.2.2.1) (by decide)
theorem zl_oneShape {xs : Nat → Int32} (h : zP 92 147 []) : ∃ w', zev 41 169 809 [some (.ref 0), some (.ref 1), some (.ref 9), some (.int 0)] [] (zov (zB 5 xs) zx4) (some (.int 1)) w' ∧ w'.2.1 ≤ 600000 ∧ w'.2.2 ≤ 7302250 := by
  obtain ⟨v, w1, w2, h1, h2, q1, q2⟩ := h
  obtain ⟨fs, h9⟩ := q1.2.2.2.2
  refine ⟨zov (zB 5 xs) w2, ?_, q2.2.1, q2.2.2.1⟩
  refine zt (pc' := 810) zdL_809 zm_169 rfl rfl ?_
  refine zt_V (pc' := 813) zdL_810 zm_169 rfl zq_8_102 rfl (Nat.le_of_ble_eq_true rfl) (zB_c zx4_1) zqv_8_102_4 (by decide) rfl (zmet_ov zx4_n h1) ?_
  refine zt (pc' := 814) zdL_813 zm_169 rfl rfl ?_
  refine zt_V (pc' := 817) zdL_814 zm_169 rfl zq_8_105 rfl (Nat.le_of_ble_eq_true rfl) (zB_c h9) zqv_8_105_5 (by decide) rfl (zmet_ov q1.1 h2) ?_
  refine zt_icT (tgt := 822) (pc' := 820) zdL_817 zm_169 rfl rfl (zeq rfl) ?_
  refine zt (pc' := 825) zdL_822 zm_169 rfl rfl ?_
  refine zt (pc' := 18) zdL_825 zm_169 rfl rfl ?_
  exact zl_out (zB_0 q2.2.2.2.1) (by decide)
