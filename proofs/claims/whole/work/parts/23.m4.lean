theorem ml_X12_7 : Cond.methodLink RX12 7 objectInit ∈ gw := gwm 1171 (by decide +kernel) rfl
theorem im_obj : Cond.instanceMethod objectInit ∈ gw := gwm 100 (by decide +kernel) rfl
theorem cd_obj : Cond.code objectInit ⟨#[0xb1]⟩ 1 none ∈ gw := gwm 101 (by decide +kernel) rfl
theorem ac_int : Cond.arrayClass .int ∈ gw := gwm 169 (by decide +kernel) rfl
theorem ac_boolean : Cond.arrayClass .boolean ∈ gw := gwm 1347 (by decide +kernel) rfl
theorem fd_X12_102 : FD RX12 102 13 48 true := ⟨_, _, _, cls_13, by decide, gwm 1220 (by decide +kernel) rfl, rfl, fun _ => by first | rfl | contradiction⟩
theorem ml_X12_274 : Cond.methodLink RX12 274 yX12_tryPairs ∈ gw := gwm 1519 (by decide +kernel) rfl
theorem cal_X12_tryPairs : Cal yX12_tryPairs cX12_tryPairs 6 none 3 := ⟨gwm 1522 (by decide +kernel) rfl, gwm 76 (by decide +kernel) rfl, ⟨by decide, by decide, by decide +kernel⟩, by decide⟩
theorem im_X12_tryPairs : Cond.instanceMethod yX12_tryPairs ∈ gw := gwm 1521 (by decide +kernel) rfl
theorem se_X12_tryPairs : Cond.selects RX12 yX12_tryPairs yX12_tryPairs ∈ gw := gwm 60 (by decide +kernel) rfl
theorem ml_X12_278 : Cond.methodLink RX12 278 yX12_isPair ∈ gw := gwm 1527 (by decide +kernel) rfl
theorem cal_X12_isPair : Cal yX12_isPair cX12_isPair 4 (some .boolean) 2 := ⟨gwm 1530 (by decide +kernel) rfl, gwm 76 (by decide +kernel) rfl, ⟨by decide, by decide, by decide +kernel⟩, by decide⟩
theorem im_X12_isPair : Cond.instanceMethod yX12_isPair ∈ gw := gwm 1529 (by decide +kernel) rfl
theorem se_X12_isPair : Cond.selects RX12 yX12_isPair yX12_isPair ∈ gw := gwm 62 (by decide +kernel) rfl
theorem fd_X12_265 : FD RX12 265 13 46 false := ⟨_, _, _, cls_13, by decide, gwm 1218 (by decide +kernel) rfl, rfl, fun _ => by first | rfl | contradiction⟩
theorem fd_X12_268 : FD RX12 268 13 47 false := ⟨_, _, _, cls_13, by decide, gwm 1219 (by decide +kernel) rfl, rfl, fun _ => by first | rfl | contradiction⟩
theorem ml_X12_271 : Cond.methodLink RX12 271 yX12_isAhead ∈ gw := gwm 1523 (by decide +kernel) rfl
theorem cal_X12_isAhead : Cal yX12_isAhead cX12_isAhead 2 (some .boolean) 0 := ⟨gwm 1526 (by decide +kernel) rfl, gwm 76 (by decide +kernel) rfl, ⟨by decide, by decide, by decide +kernel⟩, by decide⟩
theorem im_X12_isAhead : Cond.instanceMethod yX12_isAhead ∈ gw := gwm 1525 (by decide +kernel) rfl
theorem se_X12_isAhead : Cond.selects RX12 yX12_isAhead yX12_isAhead ∈ gw := gwm 61 (by decide +kernel) rfl
theorem dX12_init_0 : decode cX12_init 0 = .ok (.aload_n 0, 1) := by decide +kernel
theorem dX12_init_1 : decode cX12_init 1 = .ok (.invokespecial 7, 3) := by decide +kernel
theorem dX12_init_4 : decode cX12_init 4 = .ok (.aload_n 0, 1) := by decide +kernel
theorem dX12_init_5 : decode cX12_init 5 = .ok (.sipush 2160, 3) := by decide +kernel
theorem dX12_init_8 : decode cX12_init 8 = .ok (.newarray .int, 2) := by decide +kernel
theorem dX12_init_10 : decode cX12_init 10 = .ok (.putfield 13, 3) := by decide +kernel
theorem dX12_init_13 : decode cX12_init 13 = .ok (.aload_n 0, 1) := by decide +kernel
theorem dX12_init_14 : decode cX12_init 14 = .ok (.bipush 100, 2) := by decide +kernel
theorem dX12_init_16 : decode cX12_init 16 = .ok (.newarray .int, 2) := by decide +kernel
theorem dX12_init_18 : decode cX12_init 18 = .ok (.putfield 17, 3) := by decide +kernel
theorem dX12_init_21 : decode cX12_init 21 = .ok (.aload_n 0, 1) := by decide +kernel
theorem dX12_init_22 : decode cX12_init 22 = .ok (.bipush 7, 2) := by decide +kernel
theorem dX12_init_24 : decode cX12_init 24 = .ok (.newarray .int, 2) := by decide +kernel
theorem dX12_init_26 : decode cX12_init 26 = .ok (.putfield 20, 3) := by decide +kernel
theorem dX12_init_29 : decode cX12_init 29 = .ok (.aload_n 0, 1) := by decide +kernel
theorem dX12_init_30 : decode cX12_init 30 = .ok (.bipush 7, 2) := by decide +kernel
theorem dX12_init_32 : decode cX12_init 32 = .ok (.newarray .int, 2) := by decide +kernel
theorem dX12_init_34 : decode cX12_init 34 = .ok (.putfield 23, 3) := by decide +kernel
theorem dX12_init_37 : decode cX12_init 37 = .ok (.aload_n 0, 1) := by decide +kernel
theorem dX12_init_38 : decode cX12_init 38 = .ok (.sipush 1512, 3) := by decide +kernel
theorem dX12_init_41 : decode cX12_init 41 = .ok (.newarray .int, 2) := by decide +kernel
theorem dX12_init_43 : decode cX12_init 43 = .ok (.putfield 26, 3) := by decide +kernel
theorem dX12_init_46 : decode cX12_init 46 = .ok (.aload_n 0, 1) := by decide +kernel
theorem dX12_init_47 : decode cX12_init 47 = .ok (.sipush 1512, 3) := by decide +kernel
theorem dX12_init_50 : decode cX12_init 50 = .ok (.newarray .int, 2) := by decide +kernel
theorem dX12_init_52 : decode cX12_init 52 = .ok (.putfield 29, 3) := by decide +kernel
theorem dX12_init_55 : decode cX12_init 55 = .ok (.aload_n 0, 1) := by decide +kernel
theorem dX12_init_56 : decode cX12_init 56 = .ok (.sipush 1512, 3) := by decide +kernel
theorem dX12_init_59 : decode cX12_init 59 = .ok (.newarray .int, 2) := by decide +kernel
theorem dX12_init_61 : decode cX12_init 61 = .ok (.putfield 32, 3) := by decide +kernel
theorem dX12_init_64 : decode cX12_init 64 = .ok (.aload_n 0, 1) := by decide +kernel
theorem dX12_init_65 : decode cX12_init 65 = .ok (.bipush 10, 2) := by decide +kernel
theorem dX12_init_67 : decode cX12_init 67 = .ok (.newarray .int, 2) := by decide +kernel
theorem dX12_init_69 : decode cX12_init 69 = .ok (.putfield 35, 3) := by decide +kernel
theorem dX12_init_72 : decode cX12_init 72 = .ok (.aload_n 0, 1) := by decide +kernel
theorem dX12_init_73 : decode cX12_init 73 = .ok (.bipush 10, 2) := by decide +kernel
theorem dX12_init_75 : decode cX12_init 75 = .ok (.newarray .int, 2) := by decide +kernel
theorem dX12_init_77 : decode cX12_init 77 = .ok (.putfield 38, 3) := by decide +kernel
theorem dX12_init_80 : decode cX12_init 80 = .ok (.aload_n 0, 1) := by decide +kernel
theorem dX12_init_81 : decode cX12_init 81 = .ok (.iconst 3, 1) := by decide +kernel
theorem dX12_init_82 : decode cX12_init 82 = .ok (.newarray .int, 2) := by decide +kernel
theorem dX12_init_84 : decode cX12_init 84 = .ok (.putfield 41, 3) := by decide +kernel
theorem dX12_init_87 : decode cX12_init 87 = .ok (.aload_n 0, 1) := by decide +kernel
theorem dX12_init_88 : decode cX12_init 88 = .ok (.iconst 3, 1) := by decide +kernel
theorem dX12_init_89 : decode cX12_init 89 = .ok (.newarray .int, 2) := by decide +kernel
theorem dX12_init_91 : decode cX12_init 91 = .ok (.putfield 44, 3) := by decide +kernel
theorem dX12_init_94 : decode cX12_init 94 = .ok (.aload_n 0, 1) := by decide +kernel
theorem dX12_init_95 : decode cX12_init 95 = .ok (.sipush 216, 3) := by decide +kernel
theorem dX12_init_98 : decode cX12_init 98 = .ok (.newarray .int, 2) := by decide +kernel
theorem dX12_init_100 : decode cX12_init 100 = .ok (.putfield 47, 3) := by decide +kernel
theorem dX12_init_103 : decode cX12_init 103 = .ok (.aload_n 0, 1) := by decide +kernel
theorem dX12_init_104 : decode cX12_init 104 = .ok (.iconst 3, 1) := by decide +kernel
theorem dX12_init_105 : decode cX12_init 105 = .ok (.newarray .int, 2) := by decide +kernel
theorem dX12_init_107 : decode cX12_init 107 = .ok (.putfield 50, 3) := by decide +kernel
theorem dX12_init_110 : decode cX12_init 110 = .ok (.aload_n 0, 1) := by decide +kernel
theorem dX12_init_111 : decode cX12_init 111 = .ok (.iconst 3, 1) := by decide +kernel
theorem dX12_init_112 : decode cX12_init 112 = .ok (.newarray .int, 2) := by decide +kernel
theorem dX12_init_114 : decode cX12_init 114 = .ok (.putfield 53, 3) := by decide +kernel
theorem dX12_init_117 : decode cX12_init 117 = .ok (.aload_n 0, 1) := by decide +kernel
theorem dX12_init_118 : decode cX12_init 118 = .ok (.bipush 8, 2) := by decide +kernel
theorem dX12_init_120 : decode cX12_init 120 = .ok (.newarray .int, 2) := by decide +kernel
theorem dX12_init_122 : decode cX12_init 122 = .ok (.putfield 56, 3) := by decide +kernel
theorem dX12_init_125 : decode cX12_init 125 = .ok (.aload_n 0, 1) := by decide +kernel
theorem dX12_init_126 : decode cX12_init 126 = .ok (.bipush 8, 2) := by decide +kernel
theorem dX12_init_128 : decode cX12_init 128 = .ok (.newarray .int, 2) := by decide +kernel
theorem dX12_init_130 : decode cX12_init 130 = .ok (.putfield 59, 3) := by decide +kernel
theorem dX12_init_133 : decode cX12_init 133 = .ok (.aload_n 0, 1) := by decide +kernel
theorem dX12_init_134 : decode cX12_init 134 = .ok (.bipush 16, 2) := by decide +kernel
theorem dX12_init_136 : decode cX12_init 136 = .ok (.newarray .int, 2) := by decide +kernel
theorem dX12_init_138 : decode cX12_init 138 = .ok (.putfield 62, 3) := by decide +kernel
theorem dX12_init_141 : decode cX12_init 141 = .ok (.aload_n 0, 1) := by decide +kernel
theorem dX12_init_142 : decode cX12_init 142 = .ok (.bipush 40, 2) := by decide +kernel
theorem dX12_init_144 : decode cX12_init 144 = .ok (.newarray .int, 2) := by decide +kernel
theorem dX12_init_146 : decode cX12_init 146 = .ok (.putfield 65, 3) := by decide +kernel
theorem dX12_init_149 : decode cX12_init 149 = .ok (.aload_n 0, 1) := by decide +kernel
theorem dX12_init_150 : decode cX12_init 150 = .ok (.bipush 40, 2) := by decide +kernel
theorem dX12_init_152 : decode cX12_init 152 = .ok (.newarray .int, 2) := by decide +kernel
theorem dX12_init_154 : decode cX12_init 154 = .ok (.putfield 68, 3) := by decide +kernel
theorem dX12_init_157 : decode cX12_init 157 = .ok (.aload_n 0, 1) := by decide +kernel
theorem dX12_init_158 : decode cX12_init 158 = .ok (.bipush 40, 2) := by decide +kernel
theorem dX12_init_160 : decode cX12_init 160 = .ok (.newarray .int, 2) := by decide +kernel
theorem dX12_init_162 : decode cX12_init 162 = .ok (.putfield 71, 3) := by decide +kernel
theorem dX12_init_165 : decode cX12_init 165 = .ok (.aload_n 0, 1) := by decide +kernel
theorem dX12_init_166 : decode cX12_init 166 = .ok (.bipush 40, 2) := by decide +kernel
theorem dX12_init_168 : decode cX12_init 168 = .ok (.newarray .int, 2) := by decide +kernel
theorem dX12_init_170 : decode cX12_init 170 = .ok (.putfield 74, 3) := by decide +kernel
theorem dX12_init_173 : decode cX12_init 173 = .ok (.aload_n 0, 1) := by decide +kernel
theorem dX12_init_174 : decode cX12_init 174 = .ok (.sipush 320, 3) := by decide +kernel
theorem dX12_init_177 : decode cX12_init 177 = .ok (.newarray .int, 2) := by decide +kernel
theorem dX12_init_179 : decode cX12_init 179 = .ok (.putfield 77, 3) := by decide +kernel
theorem dX12_init_182 : decode cX12_init 182 = .ok (.aload_n 0, 1) := by decide +kernel
theorem dX12_init_183 : decode cX12_init 183 = .ok (.sipush 320, 3) := by decide +kernel
theorem dX12_init_186 : decode cX12_init 186 = .ok (.newarray .int, 2) := by decide +kernel
theorem dX12_init_188 : decode cX12_init 188 = .ok (.putfield 80, 3) := by decide +kernel
theorem dX12_init_191 : decode cX12_init 191 = .ok (.aload_n 0, 1) := by decide +kernel
theorem dX12_init_192 : decode cX12_init 192 = .ok (.bipush 40, 2) := by decide +kernel
theorem dX12_init_194 : decode cX12_init 194 = .ok (.newarray .int, 2) := by decide +kernel
theorem dX12_init_196 : decode cX12_init 196 = .ok (.putfield 83, 3) := by decide +kernel
theorem dX12_init_199 : decode cX12_init 199 = .ok (.aload_n 0, 1) := by decide +kernel
theorem dX12_init_200 : decode cX12_init 200 = .ok (.bipush 40, 2) := by decide +kernel
theorem dX12_init_202 : decode cX12_init 202 = .ok (.newarray .int, 2) := by decide +kernel
theorem dX12_init_204 : decode cX12_init 204 = .ok (.putfield 86, 3) := by decide +kernel
theorem dX12_init_207 : decode cX12_init 207 = .ok (.aload_n 0, 1) := by decide +kernel
theorem dX12_init_208 : decode cX12_init 208 = .ok (.bipush 40, 2) := by decide +kernel
theorem dX12_init_210 : decode cX12_init 210 = .ok (.newarray .int, 2) := by decide +kernel
theorem dX12_init_212 : decode cX12_init 212 = .ok (.putfield 89, 3) := by decide +kernel
theorem dX12_init_215 : decode cX12_init 215 = .ok (.aload_n 0, 1) := by decide +kernel
theorem dX12_init_216 : decode cX12_init 216 = .ok (.bipush 40, 2) := by decide +kernel
theorem dX12_init_218 : decode cX12_init 218 = .ok (.newarray .boolean, 2) := by decide +kernel
theorem dX12_init_220 : decode cX12_init 220 = .ok (.putfield 92, 3) := by decide +kernel
theorem dX12_init_223 : decode cX12_init 223 = .ok (.aload_n 0, 1) := by decide +kernel
theorem dX12_init_224 : decode cX12_init 224 = .ok (.sipush 2048, 3) := by decide +kernel
theorem dX12_init_227 : decode cX12_init 227 = .ok (.newarray .int, 2) := by decide +kernel
theorem dX12_init_229 : decode cX12_init 229 = .ok (.putfield 96, 3) := by decide +kernel
theorem dX12_init_232 : decode cX12_init 232 = .ok (.aload_n 0, 1) := by decide +kernel
theorem dX12_init_233 : decode cX12_init 233 = .ok (.bipush 8, 2) := by decide +kernel
theorem dX12_init_235 : decode cX12_init 235 = .ok (.newarray .int, 2) := by decide +kernel
theorem dX12_init_237 : decode cX12_init 237 = .ok (.putfield 99, 3) := by decide +kernel
theorem dX12_init_240 : decode cX12_init 240 = .ok (.aload_n 0, 1) := by decide +kernel
theorem dX12_init_241 : decode cX12_init 241 = .ok (.bipush 10, 2) := by decide +kernel
theorem dX12_init_243 : decode cX12_init 243 = .ok (.newarray .int, 2) := by decide +kernel
theorem dX12_init_245 : decode cX12_init 245 = .ok (.putfield 102, 3) := by decide +kernel
theorem dX12_init_248 : decode cX12_init 248 = .ok (.aload_n 0, 1) := by decide +kernel
theorem dX12_init_249 : decode cX12_init 249 = .ok (.bipush 10, 2) := by decide +kernel
theorem dX12_init_251 : decode cX12_init 251 = .ok (.newarray .int, 2) := by decide +kernel
theorem dX12_init_253 : decode cX12_init 253 = .ok (.putfield 105, 3) := by decide +kernel
theorem dX12_init_256 : decode cX12_init 256 = .ok (.aload_n 0, 1) := by decide +kernel
theorem dX12_init_257 : decode cX12_init 257 = .ok (.bipush 10, 2) := by decide +kernel
theorem dX12_init_259 : decode cX12_init 259 = .ok (.newarray .int, 2) := by decide +kernel
theorem dX12_init_261 : decode cX12_init 261 = .ok (.putfield 108, 3) := by decide +kernel
theorem dX12_init_264 : decode cX12_init 264 = .ok (.aload_n 0, 1) := by decide +kernel
theorem dX12_init_265 : decode cX12_init 265 = .ok (.bipush 24, 2) := by decide +kernel
theorem dX12_init_267 : decode cX12_init 267 = .ok (.newarray .int, 2) := by decide +kernel
theorem dX12_init_269 : decode cX12_init 269 = .ok (.putfield 111, 3) := by decide +kernel
theorem dX12_init_272 : decode cX12_init 272 = .ok (.aload_n 0, 1) := by decide +kernel
theorem dX12_init_273 : decode cX12_init 273 = .ok (.iconst 4, 1) := by decide +kernel
theorem dX12_init_274 : decode cX12_init 274 = .ok (.newarray .int, 2) := by decide +kernel
theorem dX12_init_276 : decode cX12_init 276 = .ok (.putfield 114, 3) := by decide +kernel
theorem dX12_init_279 : decode cX12_init 279 = .ok (.aload_n 0, 1) := by decide +kernel
theorem dX12_init_280 : decode cX12_init 280 = .ok (.bipush 6, 2) := by decide +kernel
theorem dX12_init_282 : decode cX12_init 282 = .ok (.newarray .int, 2) := by decide +kernel
theorem dX12_init_284 : decode cX12_init 284 = .ok (.putfield 117, 3) := by decide +kernel
theorem dX12_init_287 : decode cX12_init 287 = .ok (.aload_n 0, 1) := by decide +kernel
theorem dX12_init_288 : decode cX12_init 288 = .ok (.bipush 6, 2) := by decide +kernel
theorem dX12_init_290 : decode cX12_init 290 = .ok (.newarray .int, 2) := by decide +kernel
theorem dX12_init_292 : decode cX12_init 292 = .ok (.putfield 120, 3) := by decide +kernel
theorem dX12_init_295 : decode cX12_init 295 = .ok (.aload_n 0, 1) := by decide +kernel
theorem dX12_init_296 : decode cX12_init 296 = .ok (.iconst 4, 1) := by decide +kernel
theorem dX12_init_297 : decode cX12_init 297 = .ok (.newarray .int, 2) := by decide +kernel
theorem dX12_init_299 : decode cX12_init 299 = .ok (.putfield 123, 3) := by decide +kernel
theorem dX12_init_302 : decode cX12_init 302 = .ok (.iconst 0, 1) := by decide +kernel
theorem dX12_init_303 : decode cX12_init 303 = .ok (.istore_n 1, 1) := by decide +kernel
theorem dX12_init_304 : decode cX12_init 304 = .ok (.iload_n 1, 1) := by decide +kernel
theorem dX12_init_305 : decode cX12_init 305 = .ok (.iconst 4, 1) := by decide +kernel
theorem dX12_init_306 : decode cX12_init 306 = .ok (.if_icmp .ge 17, 3) := by decide +kernel
theorem dX12_init_309 : decode cX12_init 309 = .ok (.aload_n 0, 1) := by decide +kernel
theorem dX12_init_310 : decode cX12_init 310 = .ok (.getfield 114, 3) := by decide +kernel
theorem dX12_init_313 : decode cX12_init 313 = .ok (.iload_n 1, 1) := by decide +kernel
theorem dX12_init_314 : decode cX12_init 314 = .ok (.bipush 6, 2) := by decide +kernel
theorem dX12_init_316 : decode cX12_init 316 = .ok (.iastore, 1) := by decide +kernel
theorem dX12_init_317 : decode cX12_init 317 = .ok (.iinc 1 1, 3) := by decide +kernel
theorem dX12_init_320 : decode cX12_init 320 = .ok (.goto (-16), 3) := by decide +kernel
theorem dX12_init_323 : decode cX12_init 323 = .ok (.return_, 1) := by decide +kernel
theorem dX12_tryPairs_0 : decode cX12_tryPairs 0 = .ok (.iload_n 1, 1) := by decide +kernel
theorem dX12_tryPairs_1 : decode cX12_tryPairs 1 = .ok (.aload_n 0, 1) := by decide +kernel
theorem dX12_tryPairs_2 : decode cX12_tryPairs 2 = .ok (.getfield 262, 3) := by decide +kernel
theorem dX12_tryPairs_5 : decode cX12_tryPairs 5 = .ok (.if_icmp .ne 98, 3) := by decide +kernel
theorem dX12_tryPairs_8 : decode cX12_tryPairs 8 = .ok (.iload_n 2, 1) := by decide +kernel
theorem dX12_tryPairs_9 : decode cX12_tryPairs 9 = .ok (.aload_n 0, 1) := by decide +kernel
theorem dX12_tryPairs_10 : decode cX12_tryPairs 10 = .ok (.getfield 265, 3) := by decide +kernel
theorem dX12_tryPairs_13 : decode cX12_tryPairs 13 = .ok (.if_icmp .gt 34, 3) := by decide +kernel
theorem dX12_tryPairs_16 : decode cX12_tryPairs 16 = .ok (.iload_n 2, 1) := by decide +kernel
theorem dX12_tryPairs_17 : decode cX12_tryPairs 17 = .ok (.aload_n 0, 1) := by decide +kernel
theorem dX12_tryPairs_18 : decode cX12_tryPairs 18 = .ok (.getfield 265, 3) := by decide +kernel
theorem dX12_tryPairs_21 : decode cX12_tryPairs 21 = .ok (.if_icmp .ne 30, 3) := by decide +kernel
theorem dX12_tryPairs_24 : decode cX12_tryPairs 24 = .ok (.iload_n 3, 1) := by decide +kernel
theorem dX12_tryPairs_25 : decode cX12_tryPairs 25 = .ok (.aload_n 0, 1) := by decide +kernel
theorem dX12_tryPairs_26 : decode cX12_tryPairs 26 = .ok (.getfield 268, 3) := by decide +kernel
theorem dX12_tryPairs_29 : decode cX12_tryPairs 29 = .ok (.if_icmp .lt 18, 3) := by decide +kernel
theorem dX12_tryPairs_32 : decode cX12_tryPairs 32 = .ok (.iload_n 3, 1) := by decide +kernel
theorem dX12_tryPairs_33 : decode cX12_tryPairs 33 = .ok (.aload_n 0, 1) := by decide +kernel
theorem dX12_tryPairs_34 : decode cX12_tryPairs 34 = .ok (.getfield 268, 3) := by decide +kernel
theorem dX12_tryPairs_37 : decode cX12_tryPairs 37 = .ok (.if_icmp .ne 14, 3) := by decide +kernel
theorem dX12_tryPairs_40 : decode cX12_tryPairs 40 = .ok (.aload_n 0, 1) := by decide +kernel
theorem dX12_tryPairs_41 : decode cX12_tryPairs 41 = .ok (.invokevirtual 271, 3) := by decide +kernel
theorem dX12_tryPairs_44 : decode cX12_tryPairs 44 = .ok (.ifCond .eq 7, 3) := by decide +kernel
theorem dX12_tryPairs_47 : decode cX12_tryPairs 47 = .ok (.iconst 1, 1) := by decide +kernel
theorem dX12_tryPairs_48 : decode cX12_tryPairs 48 = .ok (.goto 4, 3) := by decide +kernel
theorem dX12_tryPairs_51 : decode cX12_tryPairs 51 = .ok (.iconst 0, 1) := by decide +kernel
theorem dX12_tryPairs_52 : decode cX12_tryPairs 52 = .ok (.istore 4, 2) := by decide +kernel
theorem dX12_tryPairs_54 : decode cX12_tryPairs 54 = .ok (.iload 4, 2) := by decide +kernel
theorem dX12_tryPairs_56 : decode cX12_tryPairs 56 = .ok (.ifCond .ne 4, 3) := by decide +kernel
theorem dX12_tryPairs_59 : decode cX12_tryPairs 59 = .ok (.return_, 1) := by decide +kernel
theorem dX12_tryPairs_60 : decode cX12_tryPairs 60 = .ok (.aload_n 0, 1) := by decide +kernel
theorem dX12_tryPairs_61 : decode cX12_tryPairs 61 = .ok (.iload_n 2, 1) := by decide +kernel
theorem dX12_tryPairs_62 : decode cX12_tryPairs 62 = .ok (.putfield 265, 3) := by decide +kernel
theorem dX12_tryPairs_65 : decode cX12_tryPairs 65 = .ok (.aload_n 0, 1) := by decide +kernel
theorem dX12_tryPairs_66 : decode cX12_tryPairs 66 = .ok (.iload_n 3, 1) := by decide +kernel
theorem dX12_tryPairs_67 : decode cX12_tryPairs 67 = .ok (.putfield 268, 3) := by decide +kernel
theorem dX12_tryPairs_70 : decode cX12_tryPairs 70 = .ok (.iconst 0, 1) := by decide +kernel
theorem dX12_tryPairs_71 : decode cX12_tryPairs 71 = .ok (.istore 5, 2) := by decide +kernel
theorem dX12_tryPairs_73 : decode cX12_tryPairs 73 = .ok (.iload 5, 2) := by decide +kernel
theorem dX12_tryPairs_75 : decode cX12_tryPairs 75 = .ok (.aload_n 0, 1) := by decide +kernel
theorem dX12_tryPairs_76 : decode cX12_tryPairs 76 = .ok (.getfield 262, 3) := by decide +kernel
theorem dX12_tryPairs_79 : decode cX12_tryPairs 79 = .ok (.if_icmp .ge 23, 3) := by decide +kernel
theorem dX12_tryPairs_82 : decode cX12_tryPairs 82 = .ok (.aload_n 0, 1) := by decide +kernel
theorem dX12_tryPairs_83 : decode cX12_tryPairs 83 = .ok (.getfield 108, 3) := by decide +kernel
theorem dX12_tryPairs_86 : decode cX12_tryPairs 86 = .ok (.iload 5, 2) := by decide +kernel
theorem dX12_tryPairs_88 : decode cX12_tryPairs 88 = .ok (.aload_n 0, 1) := by decide +kernel
theorem dX12_tryPairs_89 : decode cX12_tryPairs 89 = .ok (.getfield 105, 3) := by decide +kernel
theorem dX12_tryPairs_92 : decode cX12_tryPairs 92 = .ok (.iload 5, 2) := by decide +kernel
theorem dX12_tryPairs_94 : decode cX12_tryPairs 94 = .ok (.iaload, 1) := by decide +kernel
theorem dX12_tryPairs_95 : decode cX12_tryPairs 95 = .ok (.iastore, 1) := by decide +kernel
theorem dX12_tryPairs_96 : decode cX12_tryPairs 96 = .ok (.iinc 5 1, 3) := by decide +kernel
theorem dX12_tryPairs_99 : decode cX12_tryPairs 99 = .ok (.goto (-26), 3) := by decide +kernel
theorem dX12_tryPairs_102 : decode cX12_tryPairs 102 = .ok (.return_, 1) := by decide +kernel
theorem dX12_tryPairs_103 : decode cX12_tryPairs 103 = .ok (.aload_n 0, 1) := by decide +kernel
theorem dX12_tryPairs_104 : decode cX12_tryPairs 104 = .ok (.getfield 105, 3) := by decide +kernel
theorem dX12_tryPairs_107 : decode cX12_tryPairs 107 = .ok (.iload_n 1, 1) := by decide +kernel
theorem dX12_tryPairs_108 : decode cX12_tryPairs 108 = .ok (.iaload, 1) := by decide +kernel
theorem dX12_tryPairs_109 : decode cX12_tryPairs 109 = .ok (.iconst (-1), 1) := by decide +kernel
theorem dX12_tryPairs_110 : decode cX12_tryPairs 110 = .ok (.if_icmp .eq 13, 3) := by decide +kernel
theorem dX12_tryPairs_113 : decode cX12_tryPairs 113 = .ok (.aload_n 0, 1) := by decide +kernel
theorem dX12_tryPairs_114 : decode cX12_tryPairs 114 = .ok (.iload_n 1, 1) := by decide +kernel
theorem dX12_tryPairs_115 : decode cX12_tryPairs 115 = .ok (.iconst 1, 1) := by decide +kernel
theorem dX12_tryPairs_116 : decode cX12_tryPairs 116 = .ok (.iadd, 1) := by decide +kernel
theorem dX12_tryPairs_117 : decode cX12_tryPairs 117 = .ok (.iload_n 2, 1) := by decide +kernel
theorem dX12_tryPairs_118 : decode cX12_tryPairs 118 = .ok (.iload_n 3, 1) := by decide +kernel
theorem dX12_tryPairs_119 : decode cX12_tryPairs 119 = .ok (.invokevirtual 274, 3) := by decide +kernel
theorem dX12_tryPairs_122 : decode cX12_tryPairs 122 = .ok (.return_, 1) := by decide +kernel
theorem dX12_tryPairs_123 : decode cX12_tryPairs 123 = .ok (.iload_n 1, 1) := by decide +kernel
theorem dX12_tryPairs_124 : decode cX12_tryPairs 124 = .ok (.iconst 1, 1) := by decide +kernel
theorem dX12_tryPairs_125 : decode cX12_tryPairs 125 = .ok (.iadd, 1) := by decide +kernel
theorem dX12_tryPairs_126 : decode cX12_tryPairs 126 = .ok (.istore 4, 2) := by decide +kernel
theorem dX12_tryPairs_128 : decode cX12_tryPairs 128 = .ok (.iload 4, 2) := by decide +kernel
theorem dX12_tryPairs_130 : decode cX12_tryPairs 130 = .ok (.aload_n 0, 1) := by decide +kernel
theorem dX12_tryPairs_131 : decode cX12_tryPairs 131 = .ok (.getfield 262, 3) := by decide +kernel
theorem dX12_tryPairs_134 : decode cX12_tryPairs 134 = .ok (.if_icmp .ge 113, 3) := by decide +kernel
theorem dX12_tryPairs_137 : decode cX12_tryPairs 137 = .ok (.aload_n 0, 1) := by decide +kernel
theorem dX12_tryPairs_138 : decode cX12_tryPairs 138 = .ok (.getfield 105, 3) := by decide +kernel
theorem dX12_tryPairs_141 : decode cX12_tryPairs 141 = .ok (.iload 4, 2) := by decide +kernel
theorem dX12_tryPairs_143 : decode cX12_tryPairs 143 = .ok (.iaload, 1) := by decide +kernel
theorem dX12_tryPairs_144 : decode cX12_tryPairs 144 = .ok (.iconst (-1), 1) := by decide +kernel
theorem dX12_tryPairs_145 : decode cX12_tryPairs 145 = .ok (.if_icmp .ne 96, 3) := by decide +kernel
theorem dX12_tryPairs_148 : decode cX12_tryPairs 148 = .ok (.aload_n 0, 1) := by decide +kernel
theorem dX12_tryPairs_149 : decode cX12_tryPairs 149 = .ok (.aload_n 0, 1) := by decide +kernel
theorem dX12_tryPairs_150 : decode cX12_tryPairs 150 = .ok (.getfield 102, 3) := by decide +kernel
theorem dX12_tryPairs_153 : decode cX12_tryPairs 153 = .ok (.iload_n 1, 1) := by decide +kernel
theorem dX12_tryPairs_154 : decode cX12_tryPairs 154 = .ok (.iaload, 1) := by decide +kernel
theorem dX12_tryPairs_155 : decode cX12_tryPairs 155 = .ok (.aload_n 0, 1) := by decide +kernel
theorem dX12_tryPairs_156 : decode cX12_tryPairs 156 = .ok (.getfield 102, 3) := by decide +kernel
theorem dX12_tryPairs_159 : decode cX12_tryPairs 159 = .ok (.iload 4, 2) := by decide +kernel
theorem dX12_tryPairs_161 : decode cX12_tryPairs 161 = .ok (.iaload, 1) := by decide +kernel
theorem dX12_tryPairs_162 : decode cX12_tryPairs 162 = .ok (.invokevirtual 278, 3) := by decide +kernel
theorem dX12_tryPairs_165 : decode cX12_tryPairs 165 = .ok (.ifCond .ne 6, 3) := by decide +kernel
theorem dX12_tryPairs_168 : decode cX12_tryPairs 168 = .ok (.goto 73, 3) := by decide +kernel
theorem dX12_tryPairs_171 : decode cX12_tryPairs 171 = .ok (.aload_n 0, 1) := by decide +kernel
theorem dX12_tryPairs_172 : decode cX12_tryPairs 172 = .ok (.getfield 105, 3) := by decide +kernel
theorem dX12_tryPairs_175 : decode cX12_tryPairs 175 = .ok (.iload_n 1, 1) := by decide +kernel
theorem dX12_tryPairs_176 : decode cX12_tryPairs 176 = .ok (.iload 4, 2) := by decide +kernel
theorem dX12_tryPairs_178 : decode cX12_tryPairs 178 = .ok (.iastore, 1) := by decide +kernel
theorem dX12_tryPairs_179 : decode cX12_tryPairs 179 = .ok (.aload_n 0, 1) := by decide +kernel
theorem dX12_tryPairs_180 : decode cX12_tryPairs 180 = .ok (.getfield 105, 3) := by decide +kernel
theorem dX12_tryPairs_183 : decode cX12_tryPairs 183 = .ok (.iload 4, 2) := by decide +kernel
theorem dX12_tryPairs_185 : decode cX12_tryPairs 185 = .ok (.iload_n 1, 1) := by decide +kernel
theorem dX12_tryPairs_186 : decode cX12_tryPairs 186 = .ok (.iastore, 1) := by decide +kernel
theorem dX12_tryPairs_187 : decode cX12_tryPairs 187 = .ok (.aload_n 0, 1) := by decide +kernel
theorem dX12_tryPairs_188 : decode cX12_tryPairs 188 = .ok (.iload_n 1, 1) := by decide +kernel
theorem dX12_tryPairs_189 : decode cX12_tryPairs 189 = .ok (.iconst 1, 1) := by decide +kernel
theorem dX12_tryPairs_190 : decode cX12_tryPairs 190 = .ok (.iadd, 1) := by decide +kernel
theorem dX12_tryPairs_191 : decode cX12_tryPairs 191 = .ok (.iload_n 2, 1) := by decide +kernel
theorem dX12_tryPairs_192 : decode cX12_tryPairs 192 = .ok (.iconst 1, 1) := by decide +kernel
theorem dX12_tryPairs_193 : decode cX12_tryPairs 193 = .ok (.iadd, 1) := by decide +kernel
theorem dX12_tryPairs_194 : decode cX12_tryPairs 194 = .ok (.iload_n 3, 1) := by decide +kernel
theorem dX12_tryPairs_195 : decode cX12_tryPairs 195 = .ok (.aload_n 0, 1) := by decide +kernel
theorem dX12_tryPairs_196 : decode cX12_tryPairs 196 = .ok (.getfield 65, 3) := by decide +kernel
theorem dX12_tryPairs_199 : decode cX12_tryPairs 199 = .ok (.aload_n 0, 1) := by decide +kernel
theorem dX12_tryPairs_200 : decode cX12_tryPairs 200 = .ok (.getfield 102, 3) := by decide +kernel
theorem dX12_tryPairs_203 : decode cX12_tryPairs 203 = .ok (.iload_n 1, 1) := by decide +kernel
theorem dX12_tryPairs_204 : decode cX12_tryPairs 204 = .ok (.iaload, 1) := by decide +kernel
theorem dX12_tryPairs_205 : decode cX12_tryPairs 205 = .ok (.iaload, 1) := by decide +kernel
theorem dX12_tryPairs_206 : decode cX12_tryPairs 206 = .ok (.aload_n 0, 1) := by decide +kernel
theorem dX12_tryPairs_207 : decode cX12_tryPairs 207 = .ok (.getfield 65, 3) := by decide +kernel
theorem dX12_tryPairs_210 : decode cX12_tryPairs 210 = .ok (.aload_n 0, 1) := by decide +kernel
theorem dX12_tryPairs_211 : decode cX12_tryPairs 211 = .ok (.getfield 102, 3) := by decide +kernel
theorem dX12_tryPairs_214 : decode cX12_tryPairs 214 = .ok (.iload 4, 2) := by decide +kernel
theorem dX12_tryPairs_216 : decode cX12_tryPairs 216 = .ok (.iaload, 1) := by decide +kernel
theorem dX12_tryPairs_217 : decode cX12_tryPairs 217 = .ok (.iaload, 1) := by decide +kernel
theorem dX12_tryPairs_218 : decode cX12_tryPairs 218 = .ok (.isub, 1) := by decide +kernel
theorem dX12_tryPairs_219 : decode cX12_tryPairs 219 = .ok (.invokestatic 245, 3) := by decide +kernel
theorem dX12_tryPairs_222 : decode cX12_tryPairs 222 = .ok (.iadd, 1) := by decide +kernel
theorem dX12_tryPairs_223 : decode cX12_tryPairs 223 = .ok (.invokevirtual 274, 3) := by decide +kernel
theorem dX12_tryPairs_226 : decode cX12_tryPairs 226 = .ok (.aload_n 0, 1) := by decide +kernel
theorem dX12_tryPairs_227 : decode cX12_tryPairs 227 = .ok (.getfield 105, 3) := by decide +kernel
theorem dX12_tryPairs_230 : decode cX12_tryPairs 230 = .ok (.iload_n 1, 1) := by decide +kernel
theorem dX12_tryPairs_231 : decode cX12_tryPairs 231 = .ok (.iconst (-1), 1) := by decide +kernel
theorem dX12_tryPairs_232 : decode cX12_tryPairs 232 = .ok (.iastore, 1) := by decide +kernel
theorem dX12_tryPairs_233 : decode cX12_tryPairs 233 = .ok (.aload_n 0, 1) := by decide +kernel
theorem dX12_tryPairs_234 : decode cX12_tryPairs 234 = .ok (.getfield 105, 3) := by decide +kernel
theorem dX12_tryPairs_237 : decode cX12_tryPairs 237 = .ok (.iload 4, 2) := by decide +kernel
theorem dX12_tryPairs_239 : decode cX12_tryPairs 239 = .ok (.iconst (-1), 1) := by decide +kernel
theorem dX12_tryPairs_240 : decode cX12_tryPairs 240 = .ok (.iastore, 1) := by decide +kernel
theorem dX12_tryPairs_241 : decode cX12_tryPairs 241 = .ok (.iinc 4 1, 3) := by decide +kernel
theorem dX12_tryPairs_244 : decode cX12_tryPairs 244 = .ok (.goto (-116), 3) := by decide +kernel
theorem dX12_tryPairs_247 : decode cX12_tryPairs 247 = .ok (.aload_n 0, 1) := by decide +kernel
theorem dX12_tryPairs_248 : decode cX12_tryPairs 248 = .ok (.iload_n 1, 1) := by decide +kernel
theorem dX12_tryPairs_249 : decode cX12_tryPairs 249 = .ok (.iconst 1, 1) := by decide +kernel
theorem dX12_tryPairs_250 : decode cX12_tryPairs 250 = .ok (.iadd, 1) := by decide +kernel
theorem dX12_tryPairs_251 : decode cX12_tryPairs 251 = .ok (.iload_n 2, 1) := by decide +kernel
theorem dX12_tryPairs_252 : decode cX12_tryPairs 252 = .ok (.iload_n 3, 1) := by decide +kernel
theorem dX12_tryPairs_253 : decode cX12_tryPairs 253 = .ok (.invokevirtual 274, 3) := by decide +kernel
theorem dX12_tryPairs_256 : decode cX12_tryPairs 256 = .ok (.return_, 1) := by decide +kernel
theorem dX12_match_0 : decode cX12_match 0 = .ok (.aload_n 0, 1) := by decide +kernel
theorem dX12_match_1 : decode cX12_match 1 = .ok (.iconst 0, 1) := by decide +kernel
theorem dX12_match_2 : decode cX12_match 2 = .ok (.putfield 1, 3) := by decide +kernel
theorem dX12_match_5 : decode cX12_match 5 = .ok (.aload_n 0, 1) := by decide +kernel
theorem dX12_match_6 : decode cX12_match 6 = .ok (.iconst 0, 1) := by decide +kernel
theorem dX12_match_7 : decode cX12_match 7 = .ok (.putfield 262, 3) := by decide +kernel
theorem dX12_match_10 : decode cX12_match 10 = .ok (.iconst 0, 1) := by decide +kernel
theorem dX12_match_11 : decode cX12_match 11 = .ok (.istore_n 1, 1) := by decide +kernel
theorem dX12_match_12 : decode cX12_match 12 = .ok (.iload_n 1, 1) := by decide +kernel
theorem dX12_match_13 : decode cX12_match 13 = .ok (.aload_n 0, 1) := by decide +kernel
theorem dX12_match_14 : decode cX12_match 14 = .ok (.getfield 239, 3) := by decide +kernel
theorem dX12_match_17 : decode cX12_match 17 = .ok (.if_icmp .ge 80, 3) := by decide +kernel
theorem dX12_match_20 : decode cX12_match 20 = .ok (.aload_n 0, 1) := by decide +kernel
theorem dX12_match_21 : decode cX12_match 21 = .ok (.getfield 262, 3) := by decide +kernel
theorem dX12_match_24 : decode cX12_match 24 = .ok (.bipush 10, 2) := by decide +kernel
theorem dX12_match_26 : decode cX12_match 26 = .ok (.if_icmp .ge 71, 3) := by decide +kernel
theorem dX12_match_29 : decode cX12_match 29 = .ok (.aload_n 0, 1) := by decide +kernel
theorem dX12_match_30 : decode cX12_match 30 = .ok (.getfield 92, 3) := by decide +kernel
theorem dX12_match_33 : decode cX12_match 33 = .ok (.iload_n 1, 1) := by decide +kernel
theorem dX12_match_34 : decode cX12_match 34 = .ok (.baload, 1) := by decide +kernel
theorem dX12_match_35 : decode cX12_match 35 = .ok (.ifCond .eq 56, 3) := by decide +kernel
theorem dX12_match_38 : decode cX12_match 38 = .ok (.aload_n 0, 1) := by decide +kernel
theorem dX12_match_39 : decode cX12_match 39 = .ok (.getfield 83, 3) := by decide +kernel
theorem dX12_match_42 : decode cX12_match 42 = .ok (.iload_n 1, 1) := by decide +kernel
theorem dX12_match_43 : decode cX12_match 43 = .ok (.iaload, 1) := by decide +kernel
theorem dX12_match_44 : decode cX12_match 44 = .ok (.iconst (-1), 1) := by decide +kernel
theorem dX12_match_45 : decode cX12_match 45 = .ok (.if_icmp .ne 46, 3) := by decide +kernel
theorem dX12_match_48 : decode cX12_match 48 = .ok (.aload_n 0, 1) := by decide +kernel
theorem dX12_match_49 : decode cX12_match 49 = .ok (.getfield 89, 3) := by decide +kernel
theorem dX12_match_52 : decode cX12_match 52 = .ok (.iload_n 1, 1) := by decide +kernel
theorem dX12_match_53 : decode cX12_match 53 = .ok (.iaload, 1) := by decide +kernel
theorem dX12_match_54 : decode cX12_match 54 = .ok (.iconst (-1), 1) := by decide +kernel
theorem dX12_match_55 : decode cX12_match 55 = .ok (.if_icmp .eq 6, 3) := by decide +kernel
theorem dX12_match_58 : decode cX12_match 58 = .ok (.goto 33, 3) := by decide +kernel
theorem dX12_match_61 : decode cX12_match 61 = .ok (.aload_n 0, 1) := by decide +kernel
theorem dX12_match_62 : decode cX12_match 62 = .ok (.getfield 102, 3) := by decide +kernel
theorem dX12_match_65 : decode cX12_match 65 = .ok (.aload_n 0, 1) := by decide +kernel
theorem dX12_match_66 : decode cX12_match 66 = .ok (.getfield 262, 3) := by decide +kernel
theorem dX12_match_69 : decode cX12_match 69 = .ok (.iload_n 1, 1) := by decide +kernel
theorem dX12_match_70 : decode cX12_match 70 = .ok (.iastore, 1) := by decide +kernel
theorem dX12_match_71 : decode cX12_match 71 = .ok (.aload_n 0, 1) := by decide +kernel
theorem dX12_match_72 : decode cX12_match 72 = .ok (.getfield 105, 3) := by decide +kernel
theorem dX12_match_75 : decode cX12_match 75 = .ok (.aload_n 0, 1) := by decide +kernel
theorem dX12_match_76 : decode cX12_match 76 = .ok (.getfield 262, 3) := by decide +kernel
theorem dX12_match_79 : decode cX12_match 79 = .ok (.iconst (-1), 1) := by decide +kernel
theorem dX12_match_80 : decode cX12_match 80 = .ok (.iastore, 1) := by decide +kernel
theorem dX12_match_81 : decode cX12_match 81 = .ok (.aload_n 0, 1) := by decide +kernel
theorem dX12_match_82 : decode cX12_match 82 = .ok (.dup, 1) := by decide +kernel
theorem dX12_match_83 : decode cX12_match 83 = .ok (.getfield 262, 3) := by decide +kernel
theorem dX12_match_86 : decode cX12_match 86 = .ok (.iconst 1, 1) := by decide +kernel
theorem dX12_match_87 : decode cX12_match 87 = .ok (.iadd, 1) := by decide +kernel
theorem dX12_match_88 : decode cX12_match 88 = .ok (.putfield 262, 3) := by decide +kernel
theorem dX12_match_91 : decode cX12_match 91 = .ok (.iinc 1 1, 3) := by decide +kernel
theorem dX12_match_94 : decode cX12_match 94 = .ok (.goto (-82), 3) := by decide +kernel
theorem dX12_match_97 : decode cX12_match 97 = .ok (.aload_n 0, 1) := by decide +kernel
theorem dX12_match_98 : decode cX12_match 98 = .ok (.iconst (-1), 1) := by decide +kernel
theorem dX12_match_99 : decode cX12_match 99 = .ok (.putfield 265, 3) := by decide +kernel
theorem dX12_match_102 : decode cX12_match 102 = .ok (.aload_n 0, 1) := by decide +kernel
theorem dX12_match_103 : decode cX12_match 103 = .ok (.iconst 0, 1) := by decide +kernel
theorem dX12_match_104 : decode cX12_match 104 = .ok (.putfield 268, 3) := by decide +kernel
theorem dX12_match_107 : decode cX12_match 107 = .ok (.aload_n 0, 1) := by decide +kernel
theorem dX12_match_108 : decode cX12_match 108 = .ok (.iconst 0, 1) := by decide +kernel
theorem dX12_match_109 : decode cX12_match 109 = .ok (.iconst 0, 1) := by decide +kernel
theorem dX12_match_110 : decode cX12_match 110 = .ok (.iconst 0, 1) := by decide +kernel
theorem dX12_match_111 : decode cX12_match 111 = .ok (.invokevirtual 274, 3) := by decide +kernel
theorem dX12_match_114 : decode cX12_match 114 = .ok (.iconst 0, 1) := by decide +kernel
theorem dX12_match_115 : decode cX12_match 115 = .ok (.istore_n 1, 1) := by decide +kernel
theorem dX12_match_116 : decode cX12_match 116 = .ok (.iload_n 1, 1) := by decide +kernel
theorem dX12_match_117 : decode cX12_match 117 = .ok (.aload_n 0, 1) := by decide +kernel
theorem dX12_match_118 : decode cX12_match 118 = .ok (.getfield 262, 3) := by decide +kernel
theorem dX12_match_121 : decode cX12_match 121 = .ok (.if_icmp .ge 41, 3) := by decide +kernel
theorem dX12_match_124 : decode cX12_match 124 = .ok (.aload_n 0, 1) := by decide +kernel
theorem dX12_match_125 : decode cX12_match 125 = .ok (.getfield 108, 3) := by decide +kernel
theorem dX12_match_128 : decode cX12_match 128 = .ok (.iload_n 1, 1) := by decide +kernel
theorem dX12_match_129 : decode cX12_match 129 = .ok (.iaload, 1) := by decide +kernel
theorem dX12_match_130 : decode cX12_match 130 = .ok (.iconst (-1), 1) := by decide +kernel
theorem dX12_match_131 : decode cX12_match 131 = .ok (.if_icmp .eq 25, 3) := by decide +kernel
theorem dX12_match_134 : decode cX12_match 134 = .ok (.aload_n 0, 1) := by decide +kernel
theorem dX12_match_135 : decode cX12_match 135 = .ok (.getfield 83, 3) := by decide +kernel
theorem dX12_match_138 : decode cX12_match 138 = .ok (.aload_n 0, 1) := by decide +kernel
theorem dX12_match_139 : decode cX12_match 139 = .ok (.getfield 102, 3) := by decide +kernel
theorem dX12_match_142 : decode cX12_match 142 = .ok (.iload_n 1, 1) := by decide +kernel
theorem dX12_match_143 : decode cX12_match 143 = .ok (.iaload, 1) := by decide +kernel
theorem dX12_match_144 : decode cX12_match 144 = .ok (.aload_n 0, 1) := by decide +kernel
theorem dX12_match_145 : decode cX12_match 145 = .ok (.getfield 102, 3) := by decide +kernel
theorem dX12_match_148 : decode cX12_match 148 = .ok (.aload_n 0, 1) := by decide +kernel
theorem dX12_match_149 : decode cX12_match 149 = .ok (.getfield 108, 3) := by decide +kernel
theorem dX12_match_152 : decode cX12_match 152 = .ok (.iload_n 1, 1) := by decide +kernel
theorem dX12_match_153 : decode cX12_match 153 = .ok (.iaload, 1) := by decide +kernel
theorem dX12_match_154 : decode cX12_match 154 = .ok (.iaload, 1) := by decide +kernel
theorem dX12_match_155 : decode cX12_match 155 = .ok (.iastore, 1) := by decide +kernel
theorem dX12_match_156 : decode cX12_match 156 = .ok (.iinc 1 1, 3) := by decide +kernel
theorem dX12_match_159 : decode cX12_match 159 = .ok (.goto (-43), 3) := by decide +kernel
theorem dX12_match_162 : decode cX12_match 162 = .ok (.aload_n 0, 1) := by decide +kernel
theorem dX12_match_163 : decode cX12_match 163 = .ok (.getfield 265, 3) := by decide +kernel
theorem dX12_match_166 : decode cX12_match 166 = .ok (.ireturn, 1) := by decide +kernel
def F_X12_init_L304 (c0 : Nat) (k323 : PM → Option (Unit × PM)) : Nat → Int32 → PM → Option (Unit × PM)
  | 0, _, _ => none
  | fu + 1, v76, h77 => if 4 ≤ v76 then (k323 h77) else (gR h77 c0 13 54 fun x78 => sI h77 x78 v76 6 fun h79 => F_X12_init_L304 c0 k323 fu (v76 + 1) h79)
def F_X12_init (a0 : Nat) (h0 : PM) : Option (Unit × PM) := nA h0 ((a0 + 1)) 20 2160 fun h1 => pR h1 a0 13 2 ((a0 + 1)) fun h2 => nA h2 ((a0 + 2)) 20 100 fun h3 => pR h3 a0 13 8 ((a0 + 2)) fun h4 => nA h4 ((a0 + 3)) 20 7 fun h5 => pR h5 a0 13 9 ((a0 + 3)) fun h6 => nA h6 ((a0 + 4)) 20 7 fun h7 => pR h7 a0 13 10 ((a0 + 4)) fun h8 => nA h8 ((a0 + 5)) 20 1512 fun h9 => pR h9 a0 13 11 ((a0 + 5)) fun h10 => nA h10 ((a0 + 6)) 20 1512 fun h11 => pR h11 a0 13 12 ((a0 + 6)) fun h12 => nA h12 ((a0 + 7)) 20 1512 fun h13 => pR h13 a0 13 13 ((a0 + 7)) fun h14 => nA h14 ((a0 + 8)) 20 10 fun h15 => pR h15 a0 13 15 ((a0 + 8)) fun h16 => nA h16 ((a0 + 9)) 20 10 fun h17 => pR h17 a0 13 16 ((a0 + 9)) fun h18 => nA h18 ((a0 + 10)) 20 3 fun h19 => pR h19 a0 13 17 ((a0 + 10)) fun h20 => nA h20 ((a0 + 11)) 20 3 fun h21 => pR h21 a0 13 18 ((a0 + 11)) fun h22 => nA h22 ((a0 + 12)) 20 216 fun h23 => pR h23 a0 13 19 ((a0 + 12)) fun h24 => nA h24 ((a0 + 13)) 20 3 fun h25 => pR h25 a0 13 20 ((a0 + 13)) fun h26 => nA h26 ((a0 + 14)) 20 3 fun h27 => pR h27 a0 13 21 ((a0 + 14)) fun h28 => nA h28 ((a0 + 15)) 20 8 fun h29 => pR h29 a0 13 25 ((a0 + 15)) fun h30 => nA h30 ((a0 + 16)) 20 8 fun h31 => pR h31 a0 13 26 ((a0 + 16)) fun h32 => nA h32 ((a0 + 17)) 20 16 fun h33 => pR h33 a0 13 27 ((a0 + 17)) fun h34 => nA h34 ((a0 + 18)) 20 40 fun h35 => pR h35 a0 13 33 ((a0 + 18)) fun h36 => nA h36 ((a0 + 19)) 20 40 fun h37 => pR h37 a0 13 34 ((a0 + 19)) fun h38 => nA h38 ((a0 + 20)) 20 40 fun h39 => pR h39 a0 13 35 ((a0 + 20)) fun h40 => nA h40 ((a0 + 21)) 20 40 fun h41 => pR h41 a0 13 36 ((a0 + 21)) fun h42 => nA h42 ((a0 + 22)) 20 320 fun h43 => pR h43 a0 13 37 ((a0 + 22)) fun h44 => nA h44 ((a0 + 23)) 20 320 fun h45 => pR h45 a0 13 38 ((a0 + 23)) fun h46 => nA h46 ((a0 + 24)) 20 40 fun h47 => pR h47 a0 13 39 ((a0 + 24)) fun h48 => nA h48 ((a0 + 25)) 20 40 fun h49 => pR h49 a0 13 40 ((a0 + 25)) fun h50 => nA h50 ((a0 + 26)) 20 40 fun h51 => pR h51 a0 13 41 ((a0 + 26)) fun h52 => nA h52 ((a0 + 27)) 22 40 fun h53 => pR h53 a0 13 42 ((a0 + 27)) fun h54 => nA h54 ((a0 + 28)) 20 2048 fun h55 => pR h55 a0 13 43 ((a0 + 28)) fun h56 => nA h56 ((a0 + 29)) 20 8 fun h57 => pR h57 a0 13 44 ((a0 + 29)) fun h58 => nA h58 ((a0 + 30)) 20 10 fun h59 => pR h59 a0 13 48 ((a0 + 30)) fun h60 => nA h60 ((a0 + 31)) 20 10 fun h61 => pR h61 a0 13 49 ((a0 + 31)) fun h62 => nA h62 ((a0 + 32)) 20 10 fun h63 => pR h63 a0 13 50 ((a0 + 32)) fun h64 => nA h64 ((a0 + 33)) 20 24 fun h65 => pR h65 a0 13 53 ((a0 + 33)) fun h66 => nA h66 ((a0 + 34)) 20 4 fun h67 => pR h67 a0 13 54 ((a0 + 34)) fun h68 => nA h68 ((a0 + 35)) 20 6 fun h69 => pR h69 a0 13 55 ((a0 + 35)) fun h70 => nA h70 ((a0 + 36)) 20 6 fun h71 => pR h71 a0 13 56 ((a0 + 36)) fun h72 => nA h72 ((a0 + 37)) 20 4 fun h73 => pR h73 a0 13 57 ((a0 + 37)) fun h74 => jn (fun  (h75 : PM) => some ((), h75)) fun k323 => F_X12_init_L304 a0 k323 LF 0 h74
set_option maxRecDepth 100000 in
set_option maxHeartbeats 4000000 in
theorem S_X12_init {a0 : Nat} {h0 : PM} (r : Unit) (h' : PM) (hF : F_X12_init a0 h0 = some (r, h')) : CN yX12_init cX12_init 2 none 37 10180 1 [.ref a0] h0 none h' := by
  obtain ⟨X, eX⟩ : ∃ X, X = (r, h') := ⟨_, rfl⟩
  rw [← eX] at hF
  have e1 : r = X.1 := by rw [eX]
  have e2 : h' = X.2 := by rw [eX]
  rw [e2]
  clear eX e1 e2
  unfold F_X12_init at hF
  refine CN_of (by decide) (fun ρ => Nat.le_of_ble_eq_true rfl) rfl ?_
  intro p l e s m args below meth c D cy base ρ hT C V hr hnm
  refine r_aload_n C dX12_init_0 rfl 0 rfl ?_
  refine r_objInit C dX12_init_1 ml_X12_7 im_obj cd_obj (by decide) (Nat.le_of_ble_eq_true rfl) ?_
  refine r_aload_n C dX12_init_4 rfl 0 rfl ?_
  refine r_sipush (v := 2160) C dX12_init_5 (by decide) ?_
  refine k_newi (N := 2160) (a := (a0 + 1)) C dX12_init_8 ac_int (by decide) (by decide) (by decide) hF (fun h1 hF => ?_)
  refine k_pR C dX12_init_10 fd_X12_13 (fun _ => hnm) (by decide) hF (fun h2 hF => ?_)
  refine r_aload_n C dX12_init_13 rfl 0 rfl ?_
  refine r_bipush (v := 100) C dX12_init_14 (by decide) ?_
  refine k_newi (N := 100) (a := (a0 + 2)) C dX12_init_16 ac_int (by decide) (by decide) (by decide) hF (fun h3 hF => ?_)
  refine k_pR C dX12_init_18 fd_X12_17 (fun _ => hnm) (by decide) hF (fun h4 hF => ?_)
  refine r_aload_n C dX12_init_21 rfl 0 rfl ?_
  refine r_bipush (v := 7) C dX12_init_22 (by decide) ?_
  refine k_newi (N := 7) (a := (a0 + 3)) C dX12_init_24 ac_int (by decide) (by decide) (by decide) hF (fun h5 hF => ?_)
  refine k_pR C dX12_init_26 fd_X12_20 (fun _ => hnm) (by decide) hF (fun h6 hF => ?_)
  refine r_aload_n C dX12_init_29 rfl 0 rfl ?_
  refine r_bipush (v := 7) C dX12_init_30 (by decide) ?_
  refine k_newi (N := 7) (a := (a0 + 4)) C dX12_init_32 ac_int (by decide) (by decide) (by decide) hF (fun h7 hF => ?_)
  refine k_pR C dX12_init_34 fd_X12_23 (fun _ => hnm) (by decide) hF (fun h8 hF => ?_)
  refine r_aload_n C dX12_init_37 rfl 0 rfl ?_
  refine r_sipush (v := 1512) C dX12_init_38 (by decide) ?_
  refine k_newi (N := 1512) (a := (a0 + 5)) C dX12_init_41 ac_int (by decide) (by decide) (by decide) hF (fun h9 hF => ?_)
  refine k_pR C dX12_init_43 fd_X12_26 (fun _ => hnm) (by decide) hF (fun h10 hF => ?_)
  refine r_aload_n C dX12_init_46 rfl 0 rfl ?_
  refine r_sipush (v := 1512) C dX12_init_47 (by decide) ?_
  refine k_newi (N := 1512) (a := (a0 + 6)) C dX12_init_50 ac_int (by decide) (by decide) (by decide) hF (fun h11 hF => ?_)
  refine k_pR C dX12_init_52 fd_X12_29 (fun _ => hnm) (by decide) hF (fun h12 hF => ?_)
  refine r_aload_n C dX12_init_55 rfl 0 rfl ?_
  refine r_sipush (v := 1512) C dX12_init_56 (by decide) ?_
  refine k_newi (N := 1512) (a := (a0 + 7)) C dX12_init_59 ac_int (by decide) (by decide) (by decide) hF (fun h13 hF => ?_)
  refine k_pR C dX12_init_61 fd_X12_32 (fun _ => hnm) (by decide) hF (fun h14 hF => ?_)
  refine r_aload_n C dX12_init_64 rfl 0 rfl ?_
  refine r_bipush (v := 10) C dX12_init_65 (by decide) ?_
  refine k_newi (N := 10) (a := (a0 + 8)) C dX12_init_67 ac_int (by decide) (by decide) (by decide) hF (fun h15 hF => ?_)
  refine k_pR C dX12_init_69 fd_X12_35 (fun _ => hnm) (by decide) hF (fun h16 hF => ?_)
  refine r_aload_n C dX12_init_72 rfl 0 rfl ?_
  refine r_bipush (v := 10) C dX12_init_73 (by decide) ?_
  refine k_newi (N := 10) (a := (a0 + 9)) C dX12_init_75 ac_int (by decide) (by decide) (by decide) hF (fun h17 hF => ?_)
  refine k_pR C dX12_init_77 fd_X12_38 (fun _ => hnm) (by decide) hF (fun h18 hF => ?_)
  refine r_aload_n C dX12_init_80 rfl 0 rfl ?_
  refine r_iconst (v := 3) C dX12_init_81 (by decide) ?_
  refine k_newi (N := 3) (a := (a0 + 10)) C dX12_init_82 ac_int (by decide) (by decide) (by decide) hF (fun h19 hF => ?_)
  refine k_pR C dX12_init_84 fd_X12_41 (fun _ => hnm) (by decide) hF (fun h20 hF => ?_)
  refine r_aload_n C dX12_init_87 rfl 0 rfl ?_
  refine r_iconst (v := 3) C dX12_init_88 (by decide) ?_
  refine k_newi (N := 3) (a := (a0 + 11)) C dX12_init_89 ac_int (by decide) (by decide) (by decide) hF (fun h21 hF => ?_)
  refine k_pR C dX12_init_91 fd_X12_44 (fun _ => hnm) (by decide) hF (fun h22 hF => ?_)
  refine r_aload_n C dX12_init_94 rfl 0 rfl ?_
  refine r_sipush (v := 216) C dX12_init_95 (by decide) ?_
  refine k_newi (N := 216) (a := (a0 + 12)) C dX12_init_98 ac_int (by decide) (by decide) (by decide) hF (fun h23 hF => ?_)
  refine k_pR C dX12_init_100 fd_X12_47 (fun _ => hnm) (by decide) hF (fun h24 hF => ?_)
  refine r_aload_n C dX12_init_103 rfl 0 rfl ?_
  refine r_iconst (v := 3) C dX12_init_104 (by decide) ?_
  refine k_newi (N := 3) (a := (a0 + 13)) C dX12_init_105 ac_int (by decide) (by decide) (by decide) hF (fun h25 hF => ?_)
  refine k_pR C dX12_init_107 fd_X12_50 (fun _ => hnm) (by decide) hF (fun h26 hF => ?_)
  refine r_aload_n C dX12_init_110 rfl 0 rfl ?_
  refine r_iconst (v := 3) C dX12_init_111 (by decide) ?_
  refine k_newi (N := 3) (a := (a0 + 14)) C dX12_init_112 ac_int (by decide) (by decide) (by decide) hF (fun h27 hF => ?_)
  refine k_pR C dX12_init_114 fd_X12_53 (fun _ => hnm) (by decide) hF (fun h28 hF => ?_)
  refine r_aload_n C dX12_init_117 rfl 0 rfl ?_
  refine r_bipush (v := 8) C dX12_init_118 (by decide) ?_
  refine k_newi (N := 8) (a := (a0 + 15)) C dX12_init_120 ac_int (by decide) (by decide) (by decide) hF (fun h29 hF => ?_)
  refine k_pR C dX12_init_122 fd_X12_56 (fun _ => hnm) (by decide) hF (fun h30 hF => ?_)
  refine r_aload_n C dX12_init_125 rfl 0 rfl ?_
  refine r_bipush (v := 8) C dX12_init_126 (by decide) ?_
  refine k_newi (N := 8) (a := (a0 + 16)) C dX12_init_128 ac_int (by decide) (by decide) (by decide) hF (fun h31 hF => ?_)
  refine k_pR C dX12_init_130 fd_X12_59 (fun _ => hnm) (by decide) hF (fun h32 hF => ?_)
  refine r_aload_n C dX12_init_133 rfl 0 rfl ?_
  refine r_bipush (v := 16) C dX12_init_134 (by decide) ?_
  refine k_newi (N := 16) (a := (a0 + 17)) C dX12_init_136 ac_int (by decide) (by decide) (by decide) hF (fun h33 hF => ?_)
  refine k_pR C dX12_init_138 fd_X12_62 (fun _ => hnm) (by decide) hF (fun h34 hF => ?_)
  refine r_aload_n C dX12_init_141 rfl 0 rfl ?_
  refine r_bipush (v := 40) C dX12_init_142 (by decide) ?_
  refine k_newi (N := 40) (a := (a0 + 18)) C dX12_init_144 ac_int (by decide) (by decide) (by decide) hF (fun h35 hF => ?_)
  refine k_pR C dX12_init_146 fd_X12_65 (fun _ => hnm) (by decide) hF (fun h36 hF => ?_)
  refine r_aload_n C dX12_init_149 rfl 0 rfl ?_
  refine r_bipush (v := 40) C dX12_init_150 (by decide) ?_
  refine k_newi (N := 40) (a := (a0 + 19)) C dX12_init_152 ac_int (by decide) (by decide) (by decide) hF (fun h37 hF => ?_)
  refine k_pR C dX12_init_154 fd_X12_68 (fun _ => hnm) (by decide) hF (fun h38 hF => ?_)
  refine r_aload_n C dX12_init_157 rfl 0 rfl ?_
  refine r_bipush (v := 40) C dX12_init_158 (by decide) ?_
  refine k_newi (N := 40) (a := (a0 + 20)) C dX12_init_160 ac_int (by decide) (by decide) (by decide) hF (fun h39 hF => ?_)
  refine k_pR C dX12_init_162 fd_X12_71 (fun _ => hnm) (by decide) hF (fun h40 hF => ?_)
  refine r_aload_n C dX12_init_165 rfl 0 rfl ?_
  refine r_bipush (v := 40) C dX12_init_166 (by decide) ?_
  refine k_newi (N := 40) (a := (a0 + 21)) C dX12_init_168 ac_int (by decide) (by decide) (by decide) hF (fun h41 hF => ?_)
  refine k_pR C dX12_init_170 fd_X12_74 (fun _ => hnm) (by decide) hF (fun h42 hF => ?_)
  refine r_aload_n C dX12_init_173 rfl 0 rfl ?_
  refine r_sipush (v := 320) C dX12_init_174 (by decide) ?_
  refine k_newi (N := 320) (a := (a0 + 22)) C dX12_init_177 ac_int (by decide) (by decide) (by decide) hF (fun h43 hF => ?_)
  refine k_pR C dX12_init_179 fd_X12_77 (fun _ => hnm) (by decide) hF (fun h44 hF => ?_)
  refine r_aload_n C dX12_init_182 rfl 0 rfl ?_
  refine r_sipush (v := 320) C dX12_init_183 (by decide) ?_
  refine k_newi (N := 320) (a := (a0 + 23)) C dX12_init_186 ac_int (by decide) (by decide) (by decide) hF (fun h45 hF => ?_)
  refine k_pR C dX12_init_188 fd_X12_80 (fun _ => hnm) (by decide) hF (fun h46 hF => ?_)
  refine r_aload_n C dX12_init_191 rfl 0 rfl ?_
  refine r_bipush (v := 40) C dX12_init_192 (by decide) ?_
  refine k_newi (N := 40) (a := (a0 + 24)) C dX12_init_194 ac_int (by decide) (by decide) (by decide) hF (fun h47 hF => ?_)
  refine k_pR C dX12_init_196 fd_X12_83 (fun _ => hnm) (by decide) hF (fun h48 hF => ?_)
  refine r_aload_n C dX12_init_199 rfl 0 rfl ?_
  refine r_bipush (v := 40) C dX12_init_200 (by decide) ?_
  refine k_newi (N := 40) (a := (a0 + 25)) C dX12_init_202 ac_int (by decide) (by decide) (by decide) hF (fun h49 hF => ?_)
  refine k_pR C dX12_init_204 fd_X12_86 (fun _ => hnm) (by decide) hF (fun h50 hF => ?_)
  refine r_aload_n C dX12_init_207 rfl 0 rfl ?_
  refine r_bipush (v := 40) C dX12_init_208 (by decide) ?_
  refine k_newi (N := 40) (a := (a0 + 26)) C dX12_init_210 ac_int (by decide) (by decide) (by decide) hF (fun h51 hF => ?_)
  refine k_pR C dX12_init_212 fd_X12_89 (fun _ => hnm) (by decide) hF (fun h52 hF => ?_)
  refine r_aload_n C dX12_init_215 rfl 0 rfl ?_
  refine r_bipush (v := 40) C dX12_init_216 (by decide) ?_
  refine k_newz (N := 40) (a := (a0 + 27)) C dX12_init_218 ac_boolean (by decide) (by decide) (by decide) hF (fun h53 hF => ?_)
  refine k_pR C dX12_init_220 fd_X12_92 (fun _ => hnm) (by decide) hF (fun h54 hF => ?_)
  refine r_aload_n C dX12_init_223 rfl 0 rfl ?_
  refine r_sipush (v := 2048) C dX12_init_224 (by decide) ?_
  refine k_newi (N := 2048) (a := (a0 + 28)) C dX12_init_227 ac_int (by decide) (by decide) (by decide) hF (fun h55 hF => ?_)
  refine k_pR C dX12_init_229 fd_X12_96 (fun _ => hnm) (by decide) hF (fun h56 hF => ?_)
  refine r_aload_n C dX12_init_232 rfl 0 rfl ?_
  refine r_bipush (v := 8) C dX12_init_233 (by decide) ?_
  refine k_newi (N := 8) (a := (a0 + 29)) C dX12_init_235 ac_int (by decide) (by decide) (by decide) hF (fun h57 hF => ?_)
  refine k_pR C dX12_init_237 fd_X12_99 (fun _ => hnm) (by decide) hF (fun h58 hF => ?_)
  refine r_aload_n C dX12_init_240 rfl 0 rfl ?_
  refine r_bipush (v := 10) C dX12_init_241 (by decide) ?_
  refine k_newi (N := 10) (a := (a0 + 30)) C dX12_init_243 ac_int (by decide) (by decide) (by decide) hF (fun h59 hF => ?_)
  refine k_pR C dX12_init_245 fd_X12_102 (fun _ => hnm) (by decide) hF (fun h60 hF => ?_)
  refine r_aload_n C dX12_init_248 rfl 0 rfl ?_
  refine r_bipush (v := 10) C dX12_init_249 (by decide) ?_
  refine k_newi (N := 10) (a := (a0 + 31)) C dX12_init_251 ac_int (by decide) (by decide) (by decide) hF (fun h61 hF => ?_)
  refine k_pR C dX12_init_253 fd_X12_105 (fun _ => hnm) (by decide) hF (fun h62 hF => ?_)
  refine r_aload_n C dX12_init_256 rfl 0 rfl ?_
  refine r_bipush (v := 10) C dX12_init_257 (by decide) ?_
  refine k_newi (N := 10) (a := (a0 + 32)) C dX12_init_259 ac_int (by decide) (by decide) (by decide) hF (fun h63 hF => ?_)
  refine k_pR C dX12_init_261 fd_X12_108 (fun _ => hnm) (by decide) hF (fun h64 hF => ?_)
  refine r_aload_n C dX12_init_264 rfl 0 rfl ?_
  refine r_bipush (v := 24) C dX12_init_265 (by decide) ?_
  refine k_newi (N := 24) (a := (a0 + 33)) C dX12_init_267 ac_int (by decide) (by decide) (by decide) hF (fun h65 hF => ?_)
  refine k_pR C dX12_init_269 fd_X12_111 (fun _ => hnm) (by decide) hF (fun h66 hF => ?_)
  refine r_aload_n C dX12_init_272 rfl 0 rfl ?_
  refine r_iconst (v := 4) C dX12_init_273 (by decide) ?_
  refine k_newi (N := 4) (a := (a0 + 34)) C dX12_init_274 ac_int (by decide) (by decide) (by decide) hF (fun h67 hF => ?_)
  refine k_pR C dX12_init_276 fd_X12_114 (fun _ => hnm) (by decide) hF (fun h68 hF => ?_)
  refine r_aload_n C dX12_init_279 rfl 0 rfl ?_
  refine r_bipush (v := 6) C dX12_init_280 (by decide) ?_
  refine k_newi (N := 6) (a := (a0 + 35)) C dX12_init_282 ac_int (by decide) (by decide) (by decide) hF (fun h69 hF => ?_)
  refine k_pR C dX12_init_284 fd_X12_117 (fun _ => hnm) (by decide) hF (fun h70 hF => ?_)
  refine r_aload_n C dX12_init_287 rfl 0 rfl ?_
  refine r_bipush (v := 6) C dX12_init_288 (by decide) ?_
  refine k_newi (N := 6) (a := (a0 + 36)) C dX12_init_290 ac_int (by decide) (by decide) (by decide) hF (fun h71 hF => ?_)
  refine k_pR C dX12_init_292 fd_X12_120 (fun _ => hnm) (by decide) hF (fun h72 hF => ?_)
  refine r_aload_n C dX12_init_295 rfl 0 rfl ?_
  refine r_iconst (v := 4) C dX12_init_296 (by decide) ?_
  refine k_newi (N := 4) (a := (a0 + 37)) C dX12_init_297 ac_int (by decide) (by decide) (by decide) hF (fun h73 hF => ?_)
  refine k_pR C dX12_init_299 fd_X12_123 (fun _ => hnm) (by decide) hF (fun h74 hF => ?_)
  refine r_iconst (v := 0) C dX12_init_302 (by decide) ?_
  refine r_istore_n C dX12_init_303 rfl (by decide) rfl ?_
  obtain ⟨k323, ek323, hF⟩ := jn_some hF
  have Jk323 : ∀  (h75 : PM), k323 h75 = some X → WP p l e (rmN 37 10180 1) s m args below meth c D cy base ρ h0 37 10180 2 (MQ below (QR D cy base ρ h0 none X.2) args s 37 10180 (fun q => base ≤ q)) 323 [] [] h75 := by
    intro h75 hF
    rw [ek323] at hF
    exact k_vret C dX12_init_323 hr (by decide) (by decide) hF
  have L304 : ∀ (fu : Nat) (v76 : Int32) (h77 : PM), F_X12_init_L304 a0 k323 fu v76 h77 = some X → WP p l e (rmN 37 10180 1) s m args below meth c D cy base ρ h0 37 10180 2 (MQ below (QR D cy base ρ h0 none X.2) args s 37 10180 (fun q => base ≤ q)) 304 [(0, .ref a0), (1, .int v76)] [] h77 := by
    intro fu
    induction fu with
    | zero => intro v76 h77 hF; rw [F_X12_init_L304.eq_1] at hF; cases hF
    | succ fu ih =>
      intro v76 h77 hF
      rw [F_X12_init_L304.eq_2] at hF
      refine r_iload_n C dX12_init_304 rfl 1 rfl ?_
      refine r_iconst (v := 4) C dX12_init_305 (by decide) ?_
      refine r_icmp_ge (tgt := 323) C dX12_init_306 (by decide) hF (fun hF => ?_) (fun hF => ?_)
      · exact r_sub [] rfl (Jk323  _ hF)
      · refine r_aload_n C dX12_init_309 rfl 0 rfl ?_
        refine k_gR C dX12_init_310 fd_X12_114 (by decide) hF (fun x78 hF => ?_)
        refine r_iload_n C dX12_init_313 rfl 1 rfl ?_
        refine r_bipush (v := 6) C dX12_init_314 (by decide) ?_
        refine k_sI C dX12_init_316 hF (fun h79 hF => ?_)
        refine r_iinc (v := v76 + 1) C dX12_init_317 1 rfl (congrArg (fun z => v76 + z) (by decide)) (by decide) rfl ?_
        refine r_goto (tgt := 304) C dX12_init_320 (by decide) ?_
        exact r_sub [1, 0] rfl (ih _ _ hF)
  exact r_sub [1, 0] rfl (L304 _ _ _ hF)
def F_X12_tryPairs_L128 (rc : Nat → Int32 → Int32 → Int32 → PM → Option (Unit × PM)) (c0 : Nat) (c1 : Int32) (c2 : Int32) (c3 : Int32) (k247 : PM → Option (Unit × PM)) : Nat → Int32 → PM → Option (Unit × PM)
  | 0, _, _ => none
  | fu + 1, v9, h10 => gI h10 c0 13 45 fun x11 => if x11 ≤ v9 then (k247 h10) else (gR h10 c0 13 49 fun x12 => aI h10 x12 v9 fun x13 => jn (fun  (h14 : PM) => F_X12_tryPairs_L128 rc c0 c1 c2 c3 k247 fu (v9 + 1) h14) fun k241 => if ¬ x13 = (-1) then (k241 h10) else (gR h10 c0 13 48 fun x16 => aI h10 x16 c1 fun x17 => gR h10 c0 13 48 fun x18 => aI h10 x18 v9 fun x19 => tst h10 c0 13 (cl (F_X12_isPair c0 x17 x19 h10) fun r20 h21 => if ¬ r20 = 0 then (gR h21 c0 13 49 fun x23 => sI h21 x23 c1 v9 fun h24 => gR h24 c0 13 49 fun x25 => sI h24 x25 v9 c1 fun h26 => gR h26 c0 13 33 fun x27 => gR h26 c0 13 48 fun x28 => aI h26 x28 c1 fun x29 => aI h26 x27 x29 fun x30 => gR h26 c0 13 33 fun x31 => gR h26 c0 13 48 fun x32 => aI h26 x32 v9 fun x33 => aI h26 x31 x33 fun x34 => cl (F_X12_off (x30 - x34) h26) fun r35 h36 => tst h36 c0 13 (cl (rc c0 (c1 + 1) (c2 + 1) (c3 + r35) h36) fun r38 h39 => gR h39 c0 13 49 fun x41 => sI h39 x41 c1 (-1) fun h42 => gR h42 c0 13 49 fun x43 => sI h42 x43 v9 (-1) fun h44 => k241 h44)) else (k241 h21))))
def F_X12_tryPairs_L73 (rc : Nat → Int32 → Int32 → Int32 → PM → Option (Unit × PM)) (c0 : Nat) (k102 : PM → Option (Unit × PM)) : Nat → Int32 → PM → Option (Unit × PM)
  | 0, _, _ => none
  | fu + 1, v55, h56 => gI h56 c0 13 45 fun x57 => if x57 ≤ v55 then (k102 h56) else (gR h56 c0 13 50 fun x58 => gR h56 c0 13 49 fun x59 => aI h56 x59 v55 fun x60 => sI h56 x58 v55 x60 fun h61 => F_X12_tryPairs_L73 rc c0 k102 fu (v55 + 1) h61)
def F_X12_tryPairs : Nat → Nat → Int32 → Int32 → Int32 → PM → Option (Unit × PM)
  | 0, _, _, _, _, _ => none
  | dd + 1, a0, a1, a2, a3, h0 => gI h0 a0 13 45 fun x1 => if ¬ a1 = x1 then (gR h0 a0 13 49 fun x2 => aI h0 x2 a1 fun x3 => if x3 = (-1) then (lt_ (a1 + 1) fun x4 => jn (fun  (h5 : PM) => tst h5 a0 13 (cl ((F_X12_tryPairs dd) a0 (a1 + 1) a2 a3 h5) fun r6 h7 => some ((), h7))) fun k247 => F_X12_tryPairs_L128 (F_X12_tryPairs dd) a0 a1 a2 a3 k247 LF x4 h0) else (tst h0 a0 13 (cl ((F_X12_tryPairs dd) a0 (a1 + 1) a2 a3 h0) fun r46 h47 => some ((), h47)))) else (gI h0 a0 13 46 fun x49 => jn (fun (s50 : Int32) (h51 : PM) => if ¬ s50 = 0 then (pI h51 a0 13 46 a2 fun h52 => pI h52 a0 13 47 a3 fun h53 => jn (fun  (h54 : PM) => some ((), h54)) fun k102 => F_X12_tryPairs_L73 (F_X12_tryPairs dd) a0 k102 LF 0 h53) else (some ((), h51))) fun k52 => jn (fun  (h63 : PM) => k52 1 h63) fun k47 => if x49 < a2 then (k47 h0) else (gI h0 a0 13 46 fun x64 => jn (fun  (h65 : PM) => k52 0 h65) fun k51 => if ¬ a2 = x64 then (k51 h0) else (gI h0 a0 13 47 fun x66 => if a3 < x66 then (k47 h0) else (gI h0 a0 13 47 fun x67 => if ¬ a3 = x67 then (k51 h0) else (tst h0 a0 13 (cl (F_X12_isAhead a0 h0) fun r68 h69 => if r68 = 0 then (k51 h69) else (k47 h69)))))))
set_option maxRecDepth 100000 in
set_option maxHeartbeats 4000000 in
theorem S_X12_tryPairs (dd : Nat) : ∀ {a0 : Nat} {a1 : Int32} {a2 : Int32} {a3 : Int32} {h0 : PM} (r : Unit) (h' : PM), F_X12_tryPairs dd a0 a1 a2 a3 h0 = some (r, h') → CN yX12_tryPairs cX12_tryPairs 6 none 0 0 (dd + 2) [.ref a0, .int a1, .int a2, .int a3] h0 none h' := by
  induction dd with
  | zero => intro a0 a1 a2 a3 h0 r h' hF; rw [F_X12_tryPairs.eq_1] at hF; cases hF
  | succ dd rcS =>
  intro a0 a1 a2 a3 h0 r h' hF
  obtain ⟨X, eX⟩ : ∃ X, X = (r, h') := ⟨_, rfl⟩
  rw [← eX] at hF
  have e1 : r = X.1 := by rw [eX]
  have e2 : h' = X.2 := by rw [eX]
  rw [e2]
  clear eX e1 e2
  rw [F_X12_tryPairs.eq_2] at hF
  refine CN_of (by decide) (fun ρ => Nat.le_of_ble_eq_true rfl) rfl ?_
  intro p l e s m args below meth c D cy base ρ hT C V hr hnm
  refine r_iload_n C dX12_tryPairs_0 rfl 1 rfl ?_
  refine r_aload_n C dX12_tryPairs_1 rfl 0 rfl ?_
  refine k_gI C dX12_tryPairs_2 fd_X12_262 (by decide) hF (fun x1 hF => ?_)
  refine r_icmp_ne (tgt := 103) C dX12_tryPairs_5 (by decide) hF (fun hF => ?_) (fun hF => ?_)
  · refine r_aload_n C dX12_tryPairs_103 rfl 0 rfl ?_
    refine k_gR C dX12_tryPairs_104 fd_X12_105 (by decide) hF (fun x2 hF => ?_)
    refine r_iload_n C dX12_tryPairs_107 rfl 1 rfl ?_
    refine k_aI C dX12_tryPairs_108 hF (fun x3 hF => ?_)
    refine r_iconst (v := (-1)) C dX12_tryPairs_109 (by decide) ?_
    refine r_icmp_eq (tgt := 123) C dX12_tryPairs_110 (by decide) hF (fun hF => ?_) (fun hF => ?_)
    · refine r_iload_n C dX12_tryPairs_123 rfl 1 rfl ?_
      refine r_iconst (v := 1) C dX12_tryPairs_124 (by decide) ?_
      refine r_iadd C dX12_tryPairs_125 ?_
      refine k_lti hF (fun x4 hF => ?_)
      refine r_istore C dX12_tryPairs_126 (by decide) rfl ?_
      obtain ⟨k247, ek247, hF⟩ := jn_some hF
      have Jk247 : ∀  (h5 : PM), k247 h5 = some X → WP p l e (rmN 0 0 (dd + 1 + 2)) s m args below meth c D cy base ρ h0 0 0 6 (MQ below (QR D cy base ρ h0 none X.2) args s 0 0 (fun q => base ≤ q)) 247 [(0, .ref a0), (1, .int a1), (2, .int a2), (3, .int a3)] [] h5 := by
        intro h5 hF
        rw [ek247] at hF
        refine r_aload_n C dX12_tryPairs_247 rfl 0 rfl ?_
        refine r_iload_n C dX12_tryPairs_248 rfl 1 rfl ?_
        refine r_iconst (v := 1) C dX12_tryPairs_249 (by decide) ?_
        refine r_iadd C dX12_tryPairs_250 ?_
        refine r_iload_n C dX12_tryPairs_251 rfl 2 rfl ?_
        refine r_iload_n C dX12_tryPairs_252 rfl 3 rfl ?_
        obtain ⟨ht, hF⟩ := tst_some hF
        obtain ⟨r6, h7, hc8, hF⟩ := cl_some hF
        refine r_callV (As := [.int (a1 + 1), .int a2, .int a3]) C dX12_tryPairs_253 V hT cal_X12_tryPairs cls_13 ml_X12_274 im_X12_tryPairs se_X12_tryPairs ht (by omega) rfl rfl (Nat.le_of_ble_eq_true rfl) (by decide) (by decide) (rcS _ _ hc8) ?_
        exact k_vret C dX12_tryPairs_256 hr (by decide) (by decide) hF
      have L128 : ∀ (fu : Nat) (v9 : Int32) (h10 : PM), F_X12_tryPairs_L128 (F_X12_tryPairs dd) a0 a1 a2 a3 k247 fu v9 h10 = some X → WP p l e (rmN 0 0 (dd + 1 + 2)) s m args below meth c D cy base ρ h0 0 0 6 (MQ below (QR D cy base ρ h0 none X.2) args s 0 0 (fun q => base ≤ q)) 128 [(0, .ref a0), (1, .int a1), (2, .int a2), (3, .int a3), (4, .int v9)] [] h10 := by
        intro fu
        induction fu with
        | zero => intro v9 h10 hF; rw [F_X12_tryPairs_L128.eq_1] at hF; cases hF
        | succ fu ih =>
          intro v9 h10 hF
          rw [F_X12_tryPairs_L128.eq_2] at hF
          refine r_iload C dX12_tryPairs_128 4 rfl ?_
          refine r_aload_n C dX12_tryPairs_130 rfl 0 rfl ?_
          refine k_gI C dX12_tryPairs_131 fd_X12_262 (by decide) hF (fun x11 hF => ?_)
          refine r_icmp_ge (tgt := 247) C dX12_tryPairs_134 (by decide) hF (fun hF => ?_) (fun hF => ?_)
          · exact r_sub [0, 1, 2, 3] rfl (Jk247  _ hF)
          · refine r_aload_n C dX12_tryPairs_137 rfl 0 rfl ?_
            refine k_gR C dX12_tryPairs_138 fd_X12_105 (by decide) hF (fun x12 hF => ?_)
            refine r_iload C dX12_tryPairs_141 4 rfl ?_
            refine k_aI C dX12_tryPairs_143 hF (fun x13 hF => ?_)
            refine r_iconst (v := (-1)) C dX12_tryPairs_144 (by decide) ?_
            obtain ⟨k241_14, ek241_14, hF⟩ := jn_some hF
            have Jk241_14 : ∀  (h15 : PM), k241_14 h15 = some X → WP p l e (rmN 0 0 (dd + 1 + 2)) s m args below meth c D cy base ρ h0 0 0 6 (MQ below (QR D cy base ρ h0 none X.2) args s 0 0 (fun q => base ≤ q)) 241 [(0, .ref a0), (1, .int a1), (2, .int a2), (3, .int a3), (4, .int v9)] [] h15 := by
              intro h15 hF
              rw [ek241_14] at hF
              refine r_iinc (v := v9 + 1) C dX12_tryPairs_241 4 rfl (congrArg (fun z => v9 + z) (by decide)) (by decide) rfl ?_
              refine r_goto (tgt := 128) C dX12_tryPairs_244 (by decide) ?_
              exact r_sub [1, 2, 3, 4, 0] rfl (ih _ _ hF)
            refine r_icmp_ne (tgt := 241) C dX12_tryPairs_145 (by decide) hF (fun hF => ?_) (fun hF => ?_)
            · exact Jk241_14  _ hF
            · refine r_aload_n C dX12_tryPairs_148 rfl 0 rfl ?_
              refine r_aload_n C dX12_tryPairs_149 rfl 0 rfl ?_
              refine k_gR C dX12_tryPairs_150 fd_X12_102 (by decide) hF (fun x17 hF => ?_)
              refine r_iload_n C dX12_tryPairs_153 rfl 1 rfl ?_
              refine k_aI C dX12_tryPairs_154 hF (fun x18 hF => ?_)
              refine r_aload_n C dX12_tryPairs_155 rfl 0 rfl ?_
              refine k_gR C dX12_tryPairs_156 fd_X12_102 (by decide) hF (fun x19 hF => ?_)
              refine r_iload C dX12_tryPairs_159 4 rfl ?_
              refine k_aI C dX12_tryPairs_161 hF (fun x20 hF => ?_)
              obtain ⟨ht, hF⟩ := tst_some hF
              obtain ⟨r21, h22, hc23, hF⟩ := cl_some hF
              refine r_callV (As := [.int x18, .int x20]) C dX12_tryPairs_162 V hT cal_X12_isPair cls_13 ml_X12_278 im_X12_isPair se_X12_isPair ht (by omega) rfl rfl (Nat.le_of_ble_eq_true rfl) (by decide) (by decide) (S_X12_isPair _ _ hc23) ?_
              refine r_if_ne (tgt := 171) C dX12_tryPairs_165 (by decide) hF (fun hF => ?_) (fun hF => ?_)
              · refine r_aload_n C dX12_tryPairs_171 rfl 0 rfl ?_
                refine k_gR C dX12_tryPairs_172 fd_X12_105 (by decide) hF (fun x24 hF => ?_)
                refine r_iload_n C dX12_tryPairs_175 rfl 1 rfl ?_
                refine r_iload C dX12_tryPairs_176 4 rfl ?_
                refine k_sI C dX12_tryPairs_178 hF (fun h25 hF => ?_)
                refine r_aload_n C dX12_tryPairs_179 rfl 0 rfl ?_
                refine k_gR C dX12_tryPairs_180 fd_X12_105 (by decide) hF (fun x26 hF => ?_)
                refine r_iload C dX12_tryPairs_183 4 rfl ?_
                refine r_iload_n C dX12_tryPairs_185 rfl 1 rfl ?_
                refine k_sI C dX12_tryPairs_186 hF (fun h27 hF => ?_)
                refine r_aload_n C dX12_tryPairs_187 rfl 0 rfl ?_
                refine r_iload_n C dX12_tryPairs_188 rfl 1 rfl ?_
                refine r_iconst (v := 1) C dX12_tryPairs_189 (by decide) ?_
                refine r_iadd C dX12_tryPairs_190 ?_
                refine r_iload_n C dX12_tryPairs_191 rfl 2 rfl ?_
                refine r_iconst (v := 1) C dX12_tryPairs_192 (by decide) ?_
                refine r_iadd C dX12_tryPairs_193 ?_
                refine r_iload_n C dX12_tryPairs_194 rfl 3 rfl ?_
                refine r_aload_n C dX12_tryPairs_195 rfl 0 rfl ?_
                refine k_gR C dX12_tryPairs_196 fd_X12_65 (by decide) hF (fun x28 hF => ?_)
                refine r_aload_n C dX12_tryPairs_199 rfl 0 rfl ?_
                refine k_gR C dX12_tryPairs_200 fd_X12_102 (by decide) hF (fun x29 hF => ?_)
                refine r_iload_n C dX12_tryPairs_203 rfl 1 rfl ?_
                refine k_aI C dX12_tryPairs_204 hF (fun x30 hF => ?_)
                refine k_aI C dX12_tryPairs_205 hF (fun x31 hF => ?_)
                refine r_aload_n C dX12_tryPairs_206 rfl 0 rfl ?_
                refine k_gR C dX12_tryPairs_207 fd_X12_65 (by decide) hF (fun x32 hF => ?_)
                refine r_aload_n C dX12_tryPairs_210 rfl 0 rfl ?_
                refine k_gR C dX12_tryPairs_211 fd_X12_102 (by decide) hF (fun x33 hF => ?_)
                refine r_iload C dX12_tryPairs_214 4 rfl ?_
                refine k_aI C dX12_tryPairs_216 hF (fun x34 hF => ?_)
                refine k_aI C dX12_tryPairs_217 hF (fun x35 hF => ?_)
                refine r_isub C dX12_tryPairs_218 ?_
                obtain ⟨r36, h37, hc38, hF⟩ := cl_some hF
                refine r_callS (As := [.int (x31 - x35)]) C dX12_tryPairs_219 V hT cal_X12_off ml_X12_245 sm_X12_off (by omega) rfl rfl (Nat.le_of_ble_eq_true rfl) (by decide) (by decide) (S_X12_off _ _ hc38) ?_
                refine r_iadd C dX12_tryPairs_222 ?_
                obtain ⟨ht, hF⟩ := tst_some hF
                obtain ⟨r39, h40, hc41, hF⟩ := cl_some hF
                refine r_callV (As := [.int (a1 + 1), .int (a2 + 1), .int (a3 + r36)]) C dX12_tryPairs_223 V hT cal_X12_tryPairs cls_13 ml_X12_274 im_X12_tryPairs se_X12_tryPairs ht (by omega) rfl rfl (Nat.le_of_ble_eq_true rfl) (by decide) (by decide) (rcS _ _ hc41) ?_
                refine r_aload_n C dX12_tryPairs_226 rfl 0 rfl ?_
                refine k_gR C dX12_tryPairs_227 fd_X12_105 (by decide) hF (fun x42 hF => ?_)
                refine r_iload_n C dX12_tryPairs_230 rfl 1 rfl ?_
                refine r_iconst (v := (-1)) C dX12_tryPairs_231 (by decide) ?_
                refine k_sI C dX12_tryPairs_232 hF (fun h43 hF => ?_)
                refine r_aload_n C dX12_tryPairs_233 rfl 0 rfl ?_
                refine k_gR C dX12_tryPairs_234 fd_X12_105 (by decide) hF (fun x44 hF => ?_)
                refine r_iload C dX12_tryPairs_237 4 rfl ?_
                refine r_iconst (v := (-1)) C dX12_tryPairs_239 (by decide) ?_
                refine k_sI C dX12_tryPairs_240 hF (fun h45 hF => ?_)
                exact Jk241_14  _ hF
              · refine r_goto (tgt := 241) C dX12_tryPairs_168 (by decide) ?_
                exact Jk241_14  _ hF
      exact r_sub [1, 2, 3, 4, 0] rfl (L128 _ _ _ hF)
    · refine r_aload_n C dX12_tryPairs_113 rfl 0 rfl ?_
      refine r_iload_n C dX12_tryPairs_114 rfl 1 rfl ?_
      refine r_iconst (v := 1) C dX12_tryPairs_115 (by decide) ?_
      refine r_iadd C dX12_tryPairs_116 ?_
      refine r_iload_n C dX12_tryPairs_117 rfl 2 rfl ?_
      refine r_iload_n C dX12_tryPairs_118 rfl 3 rfl ?_
      obtain ⟨ht, hF⟩ := tst_some hF
      obtain ⟨r46, h47, hc48, hF⟩ := cl_some hF
      refine r_callV (As := [.int (a1 + 1), .int a2, .int a3]) C dX12_tryPairs_119 V hT cal_X12_tryPairs cls_13 ml_X12_274 im_X12_tryPairs se_X12_tryPairs ht (by omega) rfl rfl (Nat.le_of_ble_eq_true rfl) (by decide) (by decide) (rcS _ _ hc48) ?_
      exact k_vret C dX12_tryPairs_122 hr (by decide) (by decide) hF
  · refine r_iload_n C dX12_tryPairs_8 rfl 2 rfl ?_
    refine r_aload_n C dX12_tryPairs_9 rfl 0 rfl ?_
    refine k_gI C dX12_tryPairs_10 fd_X12_265 (by decide) hF (fun x49 hF => ?_)
    obtain ⟨k52, ek52, hF⟩ := jn_some hF
    have Jk52 : ∀ (s50 : Int32) (h51 : PM), k52 s50 h51 = some X → WP p l e (rmN 0 0 (dd + 1 + 2)) s m args below meth c D cy base ρ h0 0 0 6 (MQ below (QR D cy base ρ h0 none X.2) args s 0 0 (fun q => base ≤ q)) 52 [(0, .ref a0), (2, .int a2), (3, .int a3)] [.int s50] h51 := by
      intro s50 h51 hF
      rw [ek52] at hF
      refine r_istore C dX12_tryPairs_52 (by decide) rfl ?_
      refine r_iload C dX12_tryPairs_54 0 rfl ?_
      refine r_if_ne (tgt := 60) C dX12_tryPairs_56 (by decide) hF (fun hF => ?_) (fun hF => ?_)
      · refine r_aload_n C dX12_tryPairs_60 rfl 1 rfl ?_
        refine r_iload_n C dX12_tryPairs_61 rfl 2 rfl ?_
        refine k_pI C dX12_tryPairs_62 fd_X12_265 (fun z => by cases z) (by decide) hF (fun h52 hF => ?_)
        refine r_aload_n C dX12_tryPairs_65 rfl 1 rfl ?_
        refine r_iload_n C dX12_tryPairs_66 rfl 3 rfl ?_
        refine k_pI C dX12_tryPairs_67 fd_X12_268 (fun z => by cases z) (by decide) hF (fun h53 hF => ?_)
        refine r_iconst (v := 0) C dX12_tryPairs_70 (by decide) ?_
        refine r_istore C dX12_tryPairs_71 (by decide) rfl ?_
        obtain ⟨k102, ek102, hF⟩ := jn_some hF
        have Jk102 : ∀  (h54 : PM), k102 h54 = some X → WP p l e (rmN 0 0 (dd + 1 + 2)) s m args below meth c D cy base ρ h0 0 0 6 (MQ below (QR D cy base ρ h0 none X.2) args s 0 0 (fun q => base ≤ q)) 102 [] [] h54 := by
          intro h54 hF
          rw [ek102] at hF
          exact k_vret C dX12_tryPairs_102 hr (by decide) (by decide) hF
        have L73 : ∀ (fu : Nat) (v55 : Int32) (h56 : PM), F_X12_tryPairs_L73 (F_X12_tryPairs dd) a0 k102 fu v55 h56 = some X → WP p l e (rmN 0 0 (dd + 1 + 2)) s m args below meth c D cy base ρ h0 0 0 6 (MQ below (QR D cy base ρ h0 none X.2) args s 0 0 (fun q => base ≤ q)) 73 [(0, .ref a0), (5, .int v55)] [] h56 := by
          intro fu
          induction fu with
          | zero => intro v55 h56 hF; rw [F_X12_tryPairs_L73.eq_1] at hF; cases hF
          | succ fu ih =>
            intro v55 h56 hF
            rw [F_X12_tryPairs_L73.eq_2] at hF
            refine r_iload C dX12_tryPairs_73 1 rfl ?_
            refine r_aload_n C dX12_tryPairs_75 rfl 0 rfl ?_
            refine k_gI C dX12_tryPairs_76 fd_X12_262 (by decide) hF (fun x57 hF => ?_)
            refine r_icmp_ge (tgt := 102) C dX12_tryPairs_79 (by decide) hF (fun hF => ?_) (fun hF => ?_)
            · exact r_sub [] rfl (Jk102  _ hF)
            · refine r_aload_n C dX12_tryPairs_82 rfl 0 rfl ?_
              refine k_gR C dX12_tryPairs_83 fd_X12_108 (by decide) hF (fun x58 hF => ?_)
              refine r_iload C dX12_tryPairs_86 1 rfl ?_
              refine r_aload_n C dX12_tryPairs_88 rfl 0 rfl ?_
              refine k_gR C dX12_tryPairs_89 fd_X12_105 (by decide) hF (fun x59 hF => ?_)
              refine r_iload C dX12_tryPairs_92 1 rfl ?_
              refine k_aI C dX12_tryPairs_94 hF (fun x60 hF => ?_)
              refine k_sI C dX12_tryPairs_95 hF (fun h61 hF => ?_)
              refine r_iinc (v := v55 + 1) C dX12_tryPairs_96 1 rfl (congrArg (fun z => v55 + z) (by decide)) (by decide) rfl ?_
              refine r_goto (tgt := 73) C dX12_tryPairs_99 (by decide) ?_
              exact r_sub [1, 0] rfl (ih _ _ hF)
        exact r_sub [2, 0] rfl (L73 _ _ _ hF)
      · exact k_vret C dX12_tryPairs_59 hr (by decide) (by decide) hF
    obtain ⟨k47, ek47, hF⟩ := jn_some hF
    have Jk47 : ∀  (h63 : PM), k47 h63 = some X → WP p l e (rmN 0 0 (dd + 1 + 2)) s m args below meth c D cy base ρ h0 0 0 6 (MQ below (QR D cy base ρ h0 none X.2) args s 0 0 (fun q => base ≤ q)) 47 [(0, .ref a0), (2, .int a2), (3, .int a3)] [] h63 := by
      intro h63 hF
      rw [ek47] at hF
      refine r_iconst (v := 1) C dX12_tryPairs_47 (by decide) ?_
      refine r_goto (tgt := 52) C dX12_tryPairs_48 (by decide) ?_
      exact Jk52 _ _ hF
    refine r_icmp_gt (tgt := 47) C dX12_tryPairs_13 (by decide) hF (fun hF => ?_) (fun hF => ?_)
    · exact r_sub [0, 2, 3] rfl (Jk47  _ hF)
    · refine r_iload_n C dX12_tryPairs_16 rfl 2 rfl ?_
      refine r_aload_n C dX12_tryPairs_17 rfl 0 rfl ?_
      refine k_gI C dX12_tryPairs_18 fd_X12_265 (by decide) hF (fun x64 hF => ?_)
      obtain ⟨k51, ek51, hF⟩ := jn_some hF
      have Jk51 : ∀  (h65 : PM), k51 h65 = some X → WP p l e (rmN 0 0 (dd + 1 + 2)) s m args below meth c D cy base ρ h0 0 0 6 (MQ below (QR D cy base ρ h0 none X.2) args s 0 0 (fun q => base ≤ q)) 51 [(0, .ref a0), (2, .int a2), (3, .int a3)] [] h65 := by
        intro h65 hF
        rw [ek51] at hF
        refine r_iconst (v := 0) C dX12_tryPairs_51 (by decide) ?_
        exact Jk52 _ _ hF
      refine r_icmp_ne (tgt := 51) C dX12_tryPairs_21 (by decide) hF (fun hF => ?_) (fun hF => ?_)
      · exact r_sub [0, 2, 3] rfl (Jk51  _ hF)
      · refine r_iload_n C dX12_tryPairs_24 rfl 3 rfl ?_
        refine r_aload_n C dX12_tryPairs_25 rfl 0 rfl ?_
        refine k_gI C dX12_tryPairs_26 fd_X12_268 (by decide) hF (fun x66 hF => ?_)
        refine r_icmp_lt (tgt := 47) C dX12_tryPairs_29 (by decide) hF (fun hF => ?_) (fun hF => ?_)
        · exact r_sub [0, 2, 3] rfl (Jk47  _ hF)
        · refine r_iload_n C dX12_tryPairs_32 rfl 3 rfl ?_
          refine r_aload_n C dX12_tryPairs_33 rfl 0 rfl ?_
          refine k_gI C dX12_tryPairs_34 fd_X12_268 (by decide) hF (fun x67 hF => ?_)
          refine r_icmp_ne (tgt := 51) C dX12_tryPairs_37 (by decide) hF (fun hF => ?_) (fun hF => ?_)
          · exact r_sub [0, 2, 3] rfl (Jk51  _ hF)
          · refine r_aload_n C dX12_tryPairs_40 rfl 0 rfl ?_
            obtain ⟨ht, hF⟩ := tst_some hF
            obtain ⟨r68, h69, hc70, hF⟩ := cl_some hF
            refine r_callV (As := []) C dX12_tryPairs_41 V hT cal_X12_isAhead cls_13 ml_X12_271 im_X12_isAhead se_X12_isAhead ht (by omega) rfl rfl (Nat.le_of_ble_eq_true rfl) (by decide) (by decide) (S_X12_isAhead _ _ hc70) ?_
            refine r_if_eq (tgt := 51) C dX12_tryPairs_44 (by decide) hF (fun hF => ?_) (fun hF => ?_)
            · exact r_sub [0, 2, 3] rfl (Jk51  _ hF)
            · exact r_sub [0, 2, 3] rfl (Jk47  _ hF)
def F_X12_match_L116 (c0 : Nat) (k162 : PM → Option (Int32 × PM)) : Nat → Int32 → PM → Option (Int32 × PM)
  | 0, _, _ => none
  | fu + 1, v11, h12 => gI h12 c0 13 45 fun x13 => if x13 ≤ v11 then (k162 h12) else (gR h12 c0 13 50 fun x14 => aI h12 x14 v11 fun x15 => jn (fun  (h16 : PM) => F_X12_match_L116 c0 k162 fu (v11 + 1) h16) fun k156 => if x15 = (-1) then (k156 h12) else (gR h12 c0 13 39 fun x18 => gR h12 c0 13 48 fun x19 => aI h12 x19 v11 fun x20 => gR h12 c0 13 48 fun x21 => gR h12 c0 13 50 fun x22 => aI h12 x22 v11 fun x23 => aI h12 x21 x23 fun x24 => sI h12 x18 x20 x24 fun h25 => k156 h25))
def F_X12_match_L12 (c0 : Nat) (k97 : PM → Option (Int32 × PM)) : Nat → Int32 → PM → Option (Int32 × PM)
  | 0, _, _ => none
  | fu + 1, v27, h28 => gI h28 c0 13 32 fun x29 => if x29 ≤ v27 then (k97 h28) else (gI h28 c0 13 45 fun x30 => if 10 ≤ x30 then (k97 h28) else (gR h28 c0 13 42 fun x31 => aZ h28 x31 v27 fun x32 => jn (fun  (h33 : PM) => F_X12_match_L12 c0 k97 fu (v27 + 1) h33) fun k91 => if x32 = 0 then (k91 h28) else (gR h28 c0 13 39 fun x35 => aI h28 x35 v27 fun x36 => if ¬ x36 = (-1) then (k91 h28) else (gR h28 c0 13 41 fun x37 => aI h28 x37 v27 fun x38 => if x38 = (-1) then (gR h28 c0 13 48 fun x39 => gI h28 c0 13 45 fun x40 => sI h28 x39 x40 v27 fun h41 => gR h41 c0 13 49 fun x42 => gI h41 c0 13 45 fun x43 => sI h41 x42 x43 (-1) fun h44 => gI h44 c0 13 45 fun x45 => pI h44 c0 13 45 (x45 + 1) fun h46 => k91 h46) else (k91 h28)))))
def F_X12_match (a0 : Nat) (h0 : PM) : Option (Int32 × PM) := pI h0 a0 13 0 0 fun h1 => pI h1 a0 13 45 0 fun h2 => jn (fun  (h3 : PM) => pI h3 a0 13 46 (-1) fun h4 => pI h4 a0 13 47 0 fun h5 => tst h5 a0 13 (cl (F_X12_tryPairs 16 a0 0 0 0 h5) fun r6 h7 => jn (fun  (h9 : PM) => gI h9 a0 13 46 fun x10 => some (x10, h9)) fun k162 => F_X12_match_L116 a0 k162 LF 0 h7)) fun k97 => F_X12_match_L12 a0 k97 LF 0 h2
set_option maxRecDepth 100000 in
set_option maxHeartbeats 4000000 in
theorem S_X12_match {a0 : Nat} {h0 : PM} (r : Int32) (h' : PM) (hF : F_X12_match a0 h0 = some (r, h')) : CN yX12_match cX12_match 2 (some .int) 0 0 19 [.ref a0] h0 (some (.int r)) h' := by
  obtain ⟨X, eX⟩ : ∃ X, X = (r, h') := ⟨_, rfl⟩
  rw [← eX] at hF
  have e1 : r = X.1 := by rw [eX]
  have e2 : h' = X.2 := by rw [eX]
  rw [e1, e2]
  clear eX e1 e2
  unfold F_X12_match at hF
  refine CN_of (by decide) (fun ρ => Nat.le_of_ble_eq_true rfl) rfl ?_
  intro p l e s m args below meth c D cy base ρ hT C V hr hnm
  refine r_aload_n C dX12_match_0 rfl 0 rfl ?_
  refine r_iconst (v := 0) C dX12_match_1 (by decide) ?_
  refine k_pI C dX12_match_2 fd_X12_1 (fun z => by cases z) (by decide) hF (fun h1 hF => ?_)
  refine r_aload_n C dX12_match_5 rfl 0 rfl ?_
  refine r_iconst (v := 0) C dX12_match_6 (by decide) ?_
  refine k_pI C dX12_match_7 fd_X12_262 (fun z => by cases z) (by decide) hF (fun h2 hF => ?_)
  refine r_iconst (v := 0) C dX12_match_10 (by decide) ?_
  refine r_istore_n C dX12_match_11 rfl (by decide) rfl ?_
  obtain ⟨k97, ek97, hF⟩ := jn_some hF
  have Jk97 : ∀  (h3 : PM), k97 h3 = some X → WP p l e (rmN 0 0 19) s m args below meth c D cy base ρ h0 0 0 2 (MQ below (QR D cy base ρ h0 (some (.int X.1)) X.2) args s 0 0 (fun q => base ≤ q)) 97 [(0, .ref a0)] [] h3 := by
    intro h3 hF
    rw [ek97] at hF
    refine r_aload_n C dX12_match_97 rfl 0 rfl ?_
    refine r_iconst (v := (-1)) C dX12_match_98 (by decide) ?_
    refine k_pI C dX12_match_99 fd_X12_265 (fun z => by cases z) (by decide) hF (fun h4 hF => ?_)
    refine r_aload_n C dX12_match_102 rfl 0 rfl ?_
    refine r_iconst (v := 0) C dX12_match_103 (by decide) ?_
    refine k_pI C dX12_match_104 fd_X12_268 (fun z => by cases z) (by decide) hF (fun h5 hF => ?_)
    refine r_aload_n C dX12_match_107 rfl 0 rfl ?_
    refine r_iconst (v := 0) C dX12_match_108 (by decide) ?_
    refine r_iconst (v := 0) C dX12_match_109 (by decide) ?_
    refine r_iconst (v := 0) C dX12_match_110 (by decide) ?_
    obtain ⟨ht, hF⟩ := tst_some hF
    obtain ⟨r6, h7, hc8, hF⟩ := cl_some hF
    refine r_callV (As := [.int 0, .int 0, .int 0]) C dX12_match_111 V hT cal_X12_tryPairs cls_13 ml_X12_274 im_X12_tryPairs se_X12_tryPairs ht (by decide) rfl rfl (Nat.le_of_ble_eq_true rfl) (by decide) (by decide) (S_X12_tryPairs 16 _ _ hc8) ?_
    refine r_iconst (v := 0) C dX12_match_114 (by decide) ?_
    refine r_istore_n C dX12_match_115 rfl (by decide) rfl ?_
    obtain ⟨k162, ek162, hF⟩ := jn_some hF
    have Jk162 : ∀  (h9 : PM), k162 h9 = some X → WP p l e (rmN 0 0 19) s m args below meth c D cy base ρ h0 0 0 2 (MQ below (QR D cy base ρ h0 (some (.int X.1)) X.2) args s 0 0 (fun q => base ≤ q)) 162 [(0, .ref a0)] [] h9 := by
      intro h9 hF
      rw [ek162] at hF
      refine r_aload_n C dX12_match_162 rfl 0 rfl ?_
      refine k_gI C dX12_match_163 fd_X12_265 (by decide) hF (fun x10 hF => ?_)
      exact k_iret C dX12_match_166 hr (by decide) (by decide) hF
    have L116 : ∀ (fu : Nat) (v11 : Int32) (h12 : PM), F_X12_match_L116 a0 k162 fu v11 h12 = some X → WP p l e (rmN 0 0 19) s m args below meth c D cy base ρ h0 0 0 2 (MQ below (QR D cy base ρ h0 (some (.int X.1)) X.2) args s 0 0 (fun q => base ≤ q)) 116 [(0, .ref a0), (1, .int v11)] [] h12 := by
      intro fu
      induction fu with
      | zero => intro v11 h12 hF; rw [F_X12_match_L116.eq_1] at hF; cases hF
      | succ fu ih =>
        intro v11 h12 hF
        rw [F_X12_match_L116.eq_2] at hF
        refine r_iload_n C dX12_match_116 rfl 1 rfl ?_
        refine r_aload_n C dX12_match_117 rfl 0 rfl ?_
        refine k_gI C dX12_match_118 fd_X12_262 (by decide) hF (fun x13 hF => ?_)
        refine r_icmp_ge (tgt := 162) C dX12_match_121 (by decide) hF (fun hF => ?_) (fun hF => ?_)
        · exact r_sub [0] rfl (Jk162  _ hF)
        · refine r_aload_n C dX12_match_124 rfl 0 rfl ?_
          refine k_gR C dX12_match_125 fd_X12_108 (by decide) hF (fun x14 hF => ?_)
          refine r_iload_n C dX12_match_128 rfl 1 rfl ?_
          refine k_aI C dX12_match_129 hF (fun x15 hF => ?_)
          refine r_iconst (v := (-1)) C dX12_match_130 (by decide) ?_
          obtain ⟨k156_16, ek156_16, hF⟩ := jn_some hF
          have Jk156_16 : ∀  (h17 : PM), k156_16 h17 = some X → WP p l e (rmN 0 0 19) s m args below meth c D cy base ρ h0 0 0 2 (MQ below (QR D cy base ρ h0 (some (.int X.1)) X.2) args s 0 0 (fun q => base ≤ q)) 156 [(0, .ref a0), (1, .int v11)] [] h17 := by
            intro h17 hF
            rw [ek156_16] at hF
            refine r_iinc (v := v11 + 1) C dX12_match_156 1 rfl (congrArg (fun z => v11 + z) (by decide)) (by decide) rfl ?_
            refine r_goto (tgt := 116) C dX12_match_159 (by decide) ?_
            exact r_sub [1, 0] rfl (ih _ _ hF)
          refine r_icmp_eq (tgt := 156) C dX12_match_131 (by decide) hF (fun hF => ?_) (fun hF => ?_)
          · exact Jk156_16  _ hF
          · refine r_aload_n C dX12_match_134 rfl 0 rfl ?_
            refine k_gR C dX12_match_135 fd_X12_83 (by decide) hF (fun x19 hF => ?_)
            refine r_aload_n C dX12_match_138 rfl 0 rfl ?_
            refine k_gR C dX12_match_139 fd_X12_102 (by decide) hF (fun x20 hF => ?_)
            refine r_iload_n C dX12_match_142 rfl 1 rfl ?_
            refine k_aI C dX12_match_143 hF (fun x21 hF => ?_)
            refine r_aload_n C dX12_match_144 rfl 0 rfl ?_
            refine k_gR C dX12_match_145 fd_X12_102 (by decide) hF (fun x22 hF => ?_)
            refine r_aload_n C dX12_match_148 rfl 0 rfl ?_
            refine k_gR C dX12_match_149 fd_X12_108 (by decide) hF (fun x23 hF => ?_)
            refine r_iload_n C dX12_match_152 rfl 1 rfl ?_
            refine k_aI C dX12_match_153 hF (fun x24 hF => ?_)
            refine k_aI C dX12_match_154 hF (fun x25 hF => ?_)
            refine k_sI C dX12_match_155 hF (fun h26 hF => ?_)
            exact Jk156_16  _ hF
    exact r_sub [1, 0] rfl (L116 _ _ _ hF)
  have L12 : ∀ (fu : Nat) (v27 : Int32) (h28 : PM), F_X12_match_L12 a0 k97 fu v27 h28 = some X → WP p l e (rmN 0 0 19) s m args below meth c D cy base ρ h0 0 0 2 (MQ below (QR D cy base ρ h0 (some (.int X.1)) X.2) args s 0 0 (fun q => base ≤ q)) 12 [(0, .ref a0), (1, .int v27)] [] h28 := by
    intro fu
    induction fu with
    | zero => intro v27 h28 hF; rw [F_X12_match_L12.eq_1] at hF; cases hF
    | succ fu ih =>
      intro v27 h28 hF
      rw [F_X12_match_L12.eq_2] at hF
      refine r_iload_n C dX12_match_12 rfl 1 rfl ?_
      refine r_aload_n C dX12_match_13 rfl 0 rfl ?_
      refine k_gI C dX12_match_14 fd_X12_239 (by decide) hF (fun x29 hF => ?_)
      refine r_icmp_ge (tgt := 97) C dX12_match_17 (by decide) hF (fun hF => ?_) (fun hF => ?_)
      · exact r_sub [0] rfl (Jk97  _ hF)
      · refine r_aload_n C dX12_match_20 rfl 0 rfl ?_
        refine k_gI C dX12_match_21 fd_X12_262 (by decide) hF (fun x30 hF => ?_)
        refine r_bipush (v := 10) C dX12_match_24 (by decide) ?_
        refine r_icmp_ge (tgt := 97) C dX12_match_26 (by decide) hF (fun hF => ?_) (fun hF => ?_)
        · exact r_sub [0] rfl (Jk97  _ hF)
        · refine r_aload_n C dX12_match_29 rfl 0 rfl ?_
          refine k_gR C dX12_match_30 fd_X12_92 (by decide) hF (fun x31 hF => ?_)
          refine r_iload_n C dX12_match_33 rfl 1 rfl ?_
          refine k_aZ C dX12_match_34 hF (fun x32 hF => ?_)
          obtain ⟨k91_33, ek91_33, hF⟩ := jn_some hF
          have Jk91_33 : ∀  (h34 : PM), k91_33 h34 = some X → WP p l e (rmN 0 0 19) s m args below meth c D cy base ρ h0 0 0 2 (MQ below (QR D cy base ρ h0 (some (.int X.1)) X.2) args s 0 0 (fun q => base ≤ q)) 91 [(0, .ref a0), (1, .int v27)] [] h34 := by
            intro h34 hF
            rw [ek91_33] at hF
            refine r_iinc (v := v27 + 1) C dX12_match_91 1 rfl (congrArg (fun z => v27 + z) (by decide)) (by decide) rfl ?_
            refine r_goto (tgt := 12) C dX12_match_94 (by decide) ?_
            exact r_sub [1, 0] rfl (ih _ _ hF)
          refine r_if_eq (tgt := 91) C dX12_match_35 (by decide) hF (fun hF => ?_) (fun hF => ?_)
          · exact Jk91_33  _ hF
          · refine r_aload_n C dX12_match_38 rfl 0 rfl ?_
            refine k_gR C dX12_match_39 fd_X12_83 (by decide) hF (fun x36 hF => ?_)
            refine r_iload_n C dX12_match_42 rfl 1 rfl ?_
            refine k_aI C dX12_match_43 hF (fun x37 hF => ?_)
            refine r_iconst (v := (-1)) C dX12_match_44 (by decide) ?_
            refine r_icmp_ne (tgt := 91) C dX12_match_45 (by decide) hF (fun hF => ?_) (fun hF => ?_)
            · exact Jk91_33  _ hF
            · refine r_aload_n C dX12_match_48 rfl 0 rfl ?_
              refine k_gR C dX12_match_49 fd_X12_89 (by decide) hF (fun x38 hF => ?_)
              refine r_iload_n C dX12_match_52 rfl 1 rfl ?_
              refine k_aI C dX12_match_53 hF (fun x39 hF => ?_)
              refine r_iconst (v := (-1)) C dX12_match_54 (by decide) ?_
              refine r_icmp_eq (tgt := 61) C dX12_match_55 (by decide) hF (fun hF => ?_) (fun hF => ?_)
              · refine r_aload_n C dX12_match_61 rfl 0 rfl ?_
                refine k_gR C dX12_match_62 fd_X12_102 (by decide) hF (fun x40 hF => ?_)
                refine r_aload_n C dX12_match_65 rfl 0 rfl ?_
                refine k_gI C dX12_match_66 fd_X12_262 (by decide) hF (fun x41 hF => ?_)
                refine r_iload_n C dX12_match_69 rfl 1 rfl ?_
                refine k_sI C dX12_match_70 hF (fun h42 hF => ?_)
                refine r_aload_n C dX12_match_71 rfl 0 rfl ?_
                refine k_gR C dX12_match_72 fd_X12_105 (by decide) hF (fun x43 hF => ?_)
                refine r_aload_n C dX12_match_75 rfl 0 rfl ?_
                refine k_gI C dX12_match_76 fd_X12_262 (by decide) hF (fun x44 hF => ?_)
                refine r_iconst (v := (-1)) C dX12_match_79 (by decide) ?_
                refine k_sI C dX12_match_80 hF (fun h45 hF => ?_)
                refine r_aload_n C dX12_match_81 rfl 0 rfl ?_
                refine r_dup C dX12_match_82 rfl ?_
                refine k_gI C dX12_match_83 fd_X12_262 (by decide) hF (fun x46 hF => ?_)
                refine r_iconst (v := 1) C dX12_match_86 (by decide) ?_
                refine r_iadd C dX12_match_87 ?_
                refine k_pI C dX12_match_88 fd_X12_262 (fun z => by cases z) (by decide) hF (fun h47 hF => ?_)
                exact Jk91_33  _ hF
              · refine r_goto (tgt := 91) C dX12_match_58 (by decide) ?_
                exact Jk91_33  _ hF
  exact r_sub [1, 0] rfl (L12 _ _ _ hF)
