theorem d_M_init_0 : decode m_M_init.2.1 0 = .ok (.aload_n 0, 1) := by decide +kernel
theorem d_M_init_1 : decode m_M_init.2.1 1 = .ok (.invokespecial 1, 3) := by decide +kernel
theorem d_M_init_4 : decode m_M_init.2.1 4 = .ok (.aload_n 0, 1) := by decide +kernel
theorem d_M_init_5 : decode m_M_init.2.1 5 = .ok (.sipush 4096, 3) := by decide +kernel
theorem d_M_init_8 : decode m_M_init.2.1 8 = .ok (.newarray .byte, 2) := by decide +kernel
theorem d_M_init_10 : decode m_M_init.2.1 10 = .ok (.putfield 7, 3) := by decide +kernel
theorem d_M_init_13 : decode m_M_init.2.1 13 = .ok (.aload_n 0, 1) := by decide +kernel
theorem d_M_init_14 : decode m_M_init.2.1 14 = .ok (.sipush 4098, 3) := by decide +kernel
theorem d_M_init_17 : decode m_M_init.2.1 17 = .ok (.newarray .int, 2) := by decide +kernel
theorem d_M_init_19 : decode m_M_init.2.1 19 = .ok (.putfield 13, 3) := by decide +kernel
theorem d_M_init_22 : decode m_M_init.2.1 22 = .ok (.aload_n 0, 1) := by decide +kernel
theorem d_M_init_23 : decode m_M_init.2.1 23 = .ok (.sipush 4098, 3) := by decide +kernel
theorem d_M_init_26 : decode m_M_init.2.1 26 = .ok (.newarray .int, 2) := by decide +kernel
theorem d_M_init_28 : decode m_M_init.2.1 28 = .ok (.putfield 17, 3) := by decide +kernel
theorem d_M_init_31 : decode m_M_init.2.1 31 = .ok (.aload_n 0, 1) := by decide +kernel
theorem d_M_init_32 : decode m_M_init.2.1 32 = .ok (.sipush 4098, 3) := by decide +kernel
theorem d_M_init_35 : decode m_M_init.2.1 35 = .ok (.newarray .int, 2) := by decide +kernel
theorem d_M_init_37 : decode m_M_init.2.1 37 = .ok (.putfield 20, 3) := by decide +kernel
theorem d_M_init_40 : decode m_M_init.2.1 40 = .ok (.aload_n 0, 1) := by decide +kernel
theorem d_M_init_41 : decode m_M_init.2.1 41 = .ok (.sipush 4098, 3) := by decide +kernel
theorem d_M_init_44 : decode m_M_init.2.1 44 = .ok (.newarray .long, 2) := by decide +kernel
theorem d_M_init_46 : decode m_M_init.2.1 46 = .ok (.putfield 23, 3) := by decide +kernel
theorem d_M_init_49 : decode m_M_init.2.1 49 = .ok (.aload_n 0, 1) := by decide +kernel
theorem d_M_init_50 : decode m_M_init.2.1 50 = .ok (.new 27, 3) := by decide +kernel
theorem d_M_init_53 : decode m_M_init.2.1 53 = .ok (.dup, 1) := by decide +kernel
theorem d_M_init_54 : decode m_M_init.2.1 54 = .ok (.invokespecial 29, 3) := by decide +kernel
theorem d_M_init_57 : decode m_M_init.2.1 57 = .ok (.putfield 30, 3) := by decide +kernel
theorem d_M_init_60 : decode m_M_init.2.1 60 = .ok (.aload_n 0, 1) := by decide +kernel
theorem d_M_init_61 : decode m_M_init.2.1 61 = .ok (.sipush 400, 3) := by decide +kernel
theorem d_M_init_64 : decode m_M_init.2.1 64 = .ok (.newarray .long, 2) := by decide +kernel
theorem d_M_init_66 : decode m_M_init.2.1 66 = .ok (.putfield 34, 3) := by decide +kernel
theorem d_M_init_69 : decode m_M_init.2.1 69 = .ok (.aload_n 0, 1) := by decide +kernel
theorem d_M_init_70 : decode m_M_init.2.1 70 = .ok (.sipush 400, 3) := by decide +kernel
theorem d_M_init_73 : decode m_M_init.2.1 73 = .ok (.newarray .long, 2) := by decide +kernel
theorem d_M_init_75 : decode m_M_init.2.1 75 = .ok (.putfield 37, 3) := by decide +kernel
theorem d_M_init_78 : decode m_M_init.2.1 78 = .ok (.aload_n 0, 1) := by decide +kernel
theorem d_M_init_79 : decode m_M_init.2.1 79 = .ok (.sipush 400, 3) := by decide +kernel
theorem d_M_init_82 : decode m_M_init.2.1 82 = .ok (.newarray .int, 2) := by decide +kernel
theorem d_M_init_84 : decode m_M_init.2.1 84 = .ok (.putfield 40, 3) := by decide +kernel
theorem d_M_init_87 : decode m_M_init.2.1 87 = .ok (.aload_n 0, 1) := by decide +kernel
theorem d_M_init_88 : decode m_M_init.2.1 88 = .ok (.sipush 400, 3) := by decide +kernel
theorem d_M_init_91 : decode m_M_init.2.1 91 = .ok (.newarray .int, 2) := by decide +kernel
theorem d_M_init_93 : decode m_M_init.2.1 93 = .ok (.putfield 43, 3) := by decide +kernel
theorem d_M_init_96 : decode m_M_init.2.1 96 = .ok (.aload_n 0, 1) := by decide +kernel
theorem d_M_init_97 : decode m_M_init.2.1 97 = .ok (.sipush 400, 3) := by decide +kernel
theorem d_M_init_100 : decode m_M_init.2.1 100 = .ok (.newarray .int, 2) := by decide +kernel
theorem d_M_init_102 : decode m_M_init.2.1 102 = .ok (.putfield 46, 3) := by decide +kernel
theorem d_M_init_105 : decode m_M_init.2.1 105 = .ok (.aload_n 0, 1) := by decide +kernel
theorem d_M_init_106 : decode m_M_init.2.1 106 = .ok (.bipush 16, 2) := by decide +kernel
theorem d_M_init_108 : decode m_M_init.2.1 108 = .ok (.newarray .int, 2) := by decide +kernel
theorem d_M_init_110 : decode m_M_init.2.1 110 = .ok (.putfield 49, 3) := by decide +kernel
theorem d_M_init_113 : decode m_M_init.2.1 113 = .ok (.aload_n 0, 1) := by decide +kernel
theorem d_M_init_114 : decode m_M_init.2.1 114 = .ok (.bipush 16, 2) := by decide +kernel
theorem d_M_init_116 : decode m_M_init.2.1 116 = .ok (.newarray .int, 2) := by decide +kernel
theorem d_M_init_118 : decode m_M_init.2.1 118 = .ok (.putfield 52, 3) := by decide +kernel
theorem d_M_init_121 : decode m_M_init.2.1 121 = .ok (.aload_n 0, 1) := by decide +kernel
theorem d_M_init_122 : decode m_M_init.2.1 122 = .ok (.bipush 16, 2) := by decide +kernel
theorem d_M_init_124 : decode m_M_init.2.1 124 = .ok (.newarray .int, 2) := by decide +kernel
theorem d_M_init_126 : decode m_M_init.2.1 126 = .ok (.putfield 55, 3) := by decide +kernel
theorem d_M_init_129 : decode m_M_init.2.1 129 = .ok (.aload_n 0, 1) := by decide +kernel
theorem d_M_init_130 : decode m_M_init.2.1 130 = .ok (.bipush 16, 2) := by decide +kernel
theorem d_M_init_132 : decode m_M_init.2.1 132 = .ok (.newarray .int, 2) := by decide +kernel
theorem d_M_init_134 : decode m_M_init.2.1 134 = .ok (.putfield 58, 3) := by decide +kernel
theorem d_M_init_137 : decode m_M_init.2.1 137 = .ok (.aload_n 0, 1) := by decide +kernel
theorem d_M_init_138 : decode m_M_init.2.1 138 = .ok (.sipush 9000, 3) := by decide +kernel
theorem d_M_init_141 : decode m_M_init.2.1 141 = .ok (.newarray .int, 2) := by decide +kernel
theorem d_M_init_143 : decode m_M_init.2.1 143 = .ok (.putfield 61, 3) := by decide +kernel
theorem d_M_init_146 : decode m_M_init.2.1 146 = .ok (.aload_n 0, 1) := by decide +kernel
theorem d_M_init_147 : decode m_M_init.2.1 147 = .ok (.sipush 9000, 3) := by decide +kernel
theorem d_M_init_150 : decode m_M_init.2.1 150 = .ok (.newarray .int, 2) := by decide +kernel
theorem d_M_init_152 : decode m_M_init.2.1 152 = .ok (.putfield 64, 3) := by decide +kernel
theorem d_M_init_155 : decode m_M_init.2.1 155 = .ok (.aload_n 0, 1) := by decide +kernel
theorem d_M_init_156 : decode m_M_init.2.1 156 = .ok (.sipush 9000, 3) := by decide +kernel
theorem d_M_init_159 : decode m_M_init.2.1 159 = .ok (.newarray .int, 2) := by decide +kernel
theorem d_M_init_161 : decode m_M_init.2.1 161 = .ok (.putfield 67, 3) := by decide +kernel
theorem d_M_init_164 : decode m_M_init.2.1 164 = .ok (.aload_n 0, 1) := by decide +kernel
theorem d_M_init_165 : decode m_M_init.2.1 165 = .ok (.sipush 9000, 3) := by decide +kernel
theorem d_M_init_168 : decode m_M_init.2.1 168 = .ok (.newarray .int, 2) := by decide +kernel
theorem d_M_init_170 : decode m_M_init.2.1 170 = .ok (.putfield 70, 3) := by decide +kernel
theorem d_M_init_173 : decode m_M_init.2.1 173 = .ok (.aload_n 0, 1) := by decide +kernel
theorem d_M_init_174 : decode m_M_init.2.1 174 = .ok (.sipush 9000, 3) := by decide +kernel
theorem d_M_init_177 : decode m_M_init.2.1 177 = .ok (.newarray .int, 2) := by decide +kernel
theorem d_M_init_179 : decode m_M_init.2.1 179 = .ok (.putfield 73, 3) := by decide +kernel
theorem d_M_init_182 : decode m_M_init.2.1 182 = .ok (.aload_n 0, 1) := by decide +kernel
theorem d_M_init_183 : decode m_M_init.2.1 183 = .ok (.sipush 9000, 3) := by decide +kernel
theorem d_M_init_186 : decode m_M_init.2.1 186 = .ok (.newarray .int, 2) := by decide +kernel
theorem d_M_init_188 : decode m_M_init.2.1 188 = .ok (.putfield 76, 3) := by decide +kernel
theorem d_M_init_191 : decode m_M_init.2.1 191 = .ok (.aload_n 0, 1) := by decide +kernel
theorem d_M_init_192 : decode m_M_init.2.1 192 = .ok (.sipush 9000, 3) := by decide +kernel
theorem d_M_init_195 : decode m_M_init.2.1 195 = .ok (.newarray .int, 2) := by decide +kernel
theorem d_M_init_197 : decode m_M_init.2.1 197 = .ok (.putfield 79, 3) := by decide +kernel
theorem d_M_init_200 : decode m_M_init.2.1 200 = .ok (.aload_n 0, 1) := by decide +kernel
theorem d_M_init_201 : decode m_M_init.2.1 201 = .ok (.sipush 9000, 3) := by decide +kernel
theorem d_M_init_204 : decode m_M_init.2.1 204 = .ok (.newarray .int, 2) := by decide +kernel
theorem d_M_init_206 : decode m_M_init.2.1 206 = .ok (.putfield 82, 3) := by decide +kernel
theorem d_M_init_209 : decode m_M_init.2.1 209 = .ok (.aload_n 0, 1) := by decide +kernel
theorem d_M_init_210 : decode m_M_init.2.1 210 = .ok (.sipush 9000, 3) := by decide +kernel
theorem d_M_init_213 : decode m_M_init.2.1 213 = .ok (.newarray .int, 2) := by decide +kernel
theorem d_M_init_215 : decode m_M_init.2.1 215 = .ok (.putfield 85, 3) := by decide +kernel
theorem d_M_init_218 : decode m_M_init.2.1 218 = .ok (.aload_n 0, 1) := by decide +kernel
theorem d_M_init_219 : decode m_M_init.2.1 219 = .ok (.sipush 9000, 3) := by decide +kernel
theorem d_M_init_222 : decode m_M_init.2.1 222 = .ok (.newarray .int, 2) := by decide +kernel
theorem d_M_init_224 : decode m_M_init.2.1 224 = .ok (.putfield 88, 3) := by decide +kernel
theorem d_M_init_227 : decode m_M_init.2.1 227 = .ok (.aload_n 0, 1) := by decide +kernel
theorem d_M_init_228 : decode m_M_init.2.1 228 = .ok (.sipush 9000, 3) := by decide +kernel
theorem d_M_init_231 : decode m_M_init.2.1 231 = .ok (.newarray .int, 2) := by decide +kernel
theorem d_M_init_233 : decode m_M_init.2.1 233 = .ok (.putfield 91, 3) := by decide +kernel
theorem d_M_init_236 : decode m_M_init.2.1 236 = .ok (.aload_n 0, 1) := by decide +kernel
theorem d_M_init_237 : decode m_M_init.2.1 237 = .ok (.sipush 9000, 3) := by decide +kernel
theorem d_M_init_240 : decode m_M_init.2.1 240 = .ok (.newarray .int, 2) := by decide +kernel
theorem d_M_init_242 : decode m_M_init.2.1 242 = .ok (.putfield 94, 3) := by decide +kernel
theorem d_M_init_245 : decode m_M_init.2.1 245 = .ok (.aload_n 0, 1) := by decide +kernel
theorem d_M_init_246 : decode m_M_init.2.1 246 = .ok (.iconst (-1), 1) := by decide +kernel
theorem d_M_init_247 : decode m_M_init.2.1 247 = .ok (.putfield 97, 3) := by decide +kernel
theorem d_M_init_250 : decode m_M_init.2.1 250 = .ok (.aload_n 0, 1) := by decide +kernel
theorem d_M_init_251 : decode m_M_init.2.1 251 = .ok (.iconst (-1), 1) := by decide +kernel
theorem d_M_init_252 : decode m_M_init.2.1 252 = .ok (.putfield 101, 3) := by decide +kernel
theorem d_M_init_255 : decode m_M_init.2.1 255 = .ok (.aload_n 0, 1) := by decide +kernel
theorem d_M_init_256 : decode m_M_init.2.1 256 = .ok (.sipush 4096, 3) := by decide +kernel
theorem d_M_init_259 : decode m_M_init.2.1 259 = .ok (.newarray .byte, 2) := by decide +kernel
theorem d_M_init_261 : decode m_M_init.2.1 261 = .ok (.putfield 104, 3) := by decide +kernel
theorem d_M_init_264 : decode m_M_init.2.1 264 = .ok (.aload_n 0, 1) := by decide +kernel
theorem d_M_init_265 : decode m_M_init.2.1 265 = .ok (.sipush 4096, 3) := by decide +kernel
theorem d_M_init_268 : decode m_M_init.2.1 268 = .ok (.newarray .byte, 2) := by decide +kernel
theorem d_M_init_270 : decode m_M_init.2.1 270 = .ok (.putfield 107, 3) := by decide +kernel
theorem d_M_init_273 : decode m_M_init.2.1 273 = .ok (.aload_n 0, 1) := by decide +kernel
theorem d_M_init_274 : decode m_M_init.2.1 274 = .ok (.ldc 110, 2) := by decide +kernel
theorem d_M_init_276 : decode m_M_init.2.1 276 = .ok (.newarray .byte, 2) := by decide +kernel
theorem d_M_init_278 : decode m_M_init.2.1 278 = .ok (.putfield 111, 3) := by decide +kernel
theorem d_M_init_281 : decode m_M_init.2.1 281 = .ok (.aload_n 0, 1) := by decide +kernel
theorem d_M_init_282 : decode m_M_init.2.1 282 = .ok (.bipush 16, 2) := by decide +kernel
theorem d_M_init_284 : decode m_M_init.2.1 284 = .ok (.newarray .int, 2) := by decide +kernel
theorem d_M_init_286 : decode m_M_init.2.1 286 = .ok (.putfield 114, 3) := by decide +kernel
theorem d_M_init_289 : decode m_M_init.2.1 289 = .ok (.aload_n 0, 1) := by decide +kernel
theorem d_M_init_290 : decode m_M_init.2.1 290 = .ok (.bipush 16, 2) := by decide +kernel
theorem d_M_init_292 : decode m_M_init.2.1 292 = .ok (.newarray .int, 2) := by decide +kernel
theorem d_M_init_294 : decode m_M_init.2.1 294 = .ok (.putfield 117, 3) := by decide +kernel
theorem d_M_init_297 : decode m_M_init.2.1 297 = .ok (.aload_n 0, 1) := by decide +kernel
theorem d_M_init_298 : decode m_M_init.2.1 298 = .ok (.bipush 16, 2) := by decide +kernel
theorem d_M_init_300 : decode m_M_init.2.1 300 = .ok (.newarray .int, 2) := by decide +kernel
theorem d_M_init_302 : decode m_M_init.2.1 302 = .ok (.putfield 120, 3) := by decide +kernel
theorem d_M_init_305 : decode m_M_init.2.1 305 = .ok (.aload_n 0, 1) := by decide +kernel
theorem d_M_init_306 : decode m_M_init.2.1 306 = .ok (.bipush 16, 2) := by decide +kernel
theorem d_M_init_308 : decode m_M_init.2.1 308 = .ok (.newarray .int, 2) := by decide +kernel
theorem d_M_init_310 : decode m_M_init.2.1 310 = .ok (.putfield 123, 3) := by decide +kernel
theorem d_M_init_313 : decode m_M_init.2.1 313 = .ok (.aload_n 0, 1) := by decide +kernel
theorem d_M_init_314 : decode m_M_init.2.1 314 = .ok (.bipush 16, 2) := by decide +kernel
theorem d_M_init_316 : decode m_M_init.2.1 316 = .ok (.newarray .int, 2) := by decide +kernel
theorem d_M_init_318 : decode m_M_init.2.1 318 = .ok (.putfield 126, 3) := by decide +kernel
theorem d_M_init_321 : decode m_M_init.2.1 321 = .ok (.aload_n 0, 1) := by decide +kernel
theorem d_M_init_322 : decode m_M_init.2.1 322 = .ok (.iconst (-1), 1) := by decide +kernel
theorem d_M_init_323 : decode m_M_init.2.1 323 = .ok (.putfield 129, 3) := by decide +kernel
theorem d_M_init_326 : decode m_M_init.2.1 326 = .ok (.aload_n 0, 1) := by decide +kernel
theorem d_M_init_327 : decode m_M_init.2.1 327 = .ok (.iconst (-1), 1) := by decide +kernel
theorem d_M_init_328 : decode m_M_init.2.1 328 = .ok (.putfield 132, 3) := by decide +kernel
theorem d_M_init_331 : decode m_M_init.2.1 331 = .ok (.aload_n 0, 1) := by decide +kernel
theorem d_M_init_332 : decode m_M_init.2.1 332 = .ok (.sipush 9000, 3) := by decide +kernel
theorem d_M_init_335 : decode m_M_init.2.1 335 = .ok (.newarray .int, 2) := by decide +kernel
theorem d_M_init_337 : decode m_M_init.2.1 337 = .ok (.putfield 135, 3) := by decide +kernel
theorem d_M_init_340 : decode m_M_init.2.1 340 = .ok (.aload_n 0, 1) := by decide +kernel
theorem d_M_init_341 : decode m_M_init.2.1 341 = .ok (.sipush 4096, 3) := by decide +kernel
theorem d_M_init_344 : decode m_M_init.2.1 344 = .ok (.newarray .int, 2) := by decide +kernel
theorem d_M_init_346 : decode m_M_init.2.1 346 = .ok (.putfield 138, 3) := by decide +kernel
theorem d_M_init_349 : decode m_M_init.2.1 349 = .ok (.return_, 1) := by decide +kernel
theorem oi_M_1 : q_OI "ProofHallModel" 1 := List.mem_of_getElem? (i := 1515) (by decide +kernel)
theorem g_M_7_i : q_GR "ProofHallModel" 7 12 1 "<init>" := ⟨"[B", by decide, ⟨_, _, _, rfl, by decide, rfl, List.mem_of_getElem? (i := 1533) (by decide +kernel), Or.inr ⟨rfl, rfl, rfl⟩⟩⟩
theorem g_M_13_i : q_GR "ProofHallModel" 13 12 3 "<init>" := ⟨"[I", by decide, ⟨_, _, _, rfl, by decide, rfl, List.mem_of_getElem? (i := 1535) (by decide +kernel), Or.inr ⟨rfl, rfl, rfl⟩⟩⟩
theorem g_M_17_i : q_GR "ProofHallModel" 17 12 4 "<init>" := ⟨"[I", by decide, ⟨_, _, _, rfl, by decide, rfl, List.mem_of_getElem? (i := 1536) (by decide +kernel), Or.inr ⟨rfl, rfl, rfl⟩⟩⟩
theorem g_M_20_i : q_GR "ProofHallModel" 20 12 5 "<init>" := ⟨"[I", by decide, ⟨_, _, _, rfl, by decide, rfl, List.mem_of_getElem? (i := 1537) (by decide +kernel), Or.inr ⟨rfl, rfl, rfl⟩⟩⟩
theorem g_M_23_i : q_GR "ProofHallModel" 23 12 6 "<init>" := ⟨"[J", by decide, ⟨_, _, _, rfl, by decide, rfl, List.mem_of_getElem? (i := 1538) (by decide +kernel), Or.inr ⟨rfl, rfl, rfl⟩⟩⟩
theorem x_M_29 : q_X "ProofHallModel" 29 "java/lang/ArithmeticException" := ⟨by decide +kernel, by decide +kernel⟩
theorem g_M_30_i : q_GR "ProofHallModel" 30 12 11 "<init>" := ⟨"Ljava/lang/ArithmeticException;", by decide, ⟨_, _, _, rfl, by decide, rfl, List.mem_of_getElem? (i := 1543) (by decide +kernel), Or.inr ⟨rfl, rfl, rfl⟩⟩⟩
theorem g_M_34_i : q_GR "ProofHallModel" 34 12 12 "<init>" := ⟨"[J", by decide, ⟨_, _, _, rfl, by decide, rfl, List.mem_of_getElem? (i := 1544) (by decide +kernel), Or.inr ⟨rfl, rfl, rfl⟩⟩⟩
theorem g_M_37_i : q_GR "ProofHallModel" 37 12 13 "<init>" := ⟨"[J", by decide, ⟨_, _, _, rfl, by decide, rfl, List.mem_of_getElem? (i := 1545) (by decide +kernel), Or.inr ⟨rfl, rfl, rfl⟩⟩⟩
theorem g_M_40_i : q_GR "ProofHallModel" 40 12 14 "<init>" := ⟨"[I", by decide, ⟨_, _, _, rfl, by decide, rfl, List.mem_of_getElem? (i := 1546) (by decide +kernel), Or.inr ⟨rfl, rfl, rfl⟩⟩⟩
theorem g_M_43_i : q_GR "ProofHallModel" 43 12 15 "<init>" := ⟨"[I", by decide, ⟨_, _, _, rfl, by decide, rfl, List.mem_of_getElem? (i := 1547) (by decide +kernel), Or.inr ⟨rfl, rfl, rfl⟩⟩⟩
theorem g_M_46_i : q_GR "ProofHallModel" 46 12 16 "<init>" := ⟨"[I", by decide, ⟨_, _, _, rfl, by decide, rfl, List.mem_of_getElem? (i := 1548) (by decide +kernel), Or.inr ⟨rfl, rfl, rfl⟩⟩⟩
theorem g_M_49_i : q_GR "ProofHallModel" 49 12 22 "<init>" := ⟨"[I", by decide, ⟨_, _, _, rfl, by decide, rfl, List.mem_of_getElem? (i := 1554) (by decide +kernel), Or.inr ⟨rfl, rfl, rfl⟩⟩⟩
theorem g_M_52_i : q_GR "ProofHallModel" 52 12 23 "<init>" := ⟨"[I", by decide, ⟨_, _, _, rfl, by decide, rfl, List.mem_of_getElem? (i := 1555) (by decide +kernel), Or.inr ⟨rfl, rfl, rfl⟩⟩⟩
theorem g_M_55_i : q_GR "ProofHallModel" 55 12 24 "<init>" := ⟨"[I", by decide, ⟨_, _, _, rfl, by decide, rfl, List.mem_of_getElem? (i := 1556) (by decide +kernel), Or.inr ⟨rfl, rfl, rfl⟩⟩⟩
theorem g_M_58_i : q_GR "ProofHallModel" 58 12 25 "<init>" := ⟨"[I", by decide, ⟨_, _, _, rfl, by decide, rfl, List.mem_of_getElem? (i := 1557) (by decide +kernel), Or.inr ⟨rfl, rfl, rfl⟩⟩⟩
theorem g_M_61_i : q_GR "ProofHallModel" 61 12 32 "<init>" := ⟨"[I", by decide, ⟨_, _, _, rfl, by decide, rfl, List.mem_of_getElem? (i := 1564) (by decide +kernel), Or.inl rfl⟩⟩
theorem g_M_64_i : q_GR "ProofHallModel" 64 12 33 "<init>" := ⟨"[I", by decide, ⟨_, _, _, rfl, by decide, rfl, List.mem_of_getElem? (i := 1565) (by decide +kernel), Or.inl rfl⟩⟩
theorem g_M_67_i : q_GR "ProofHallModel" 67 12 34 "<init>" := ⟨"[I", by decide, ⟨_, _, _, rfl, by decide, rfl, List.mem_of_getElem? (i := 1566) (by decide +kernel), Or.inl rfl⟩⟩
theorem g_M_70_i : q_GR "ProofHallModel" 70 12 35 "<init>" := ⟨"[I", by decide, ⟨_, _, _, rfl, by decide, rfl, List.mem_of_getElem? (i := 1567) (by decide +kernel), Or.inl rfl⟩⟩
theorem g_M_73_i : q_GR "ProofHallModel" 73 12 36 "<init>" := ⟨"[I", by decide, ⟨_, _, _, rfl, by decide, rfl, List.mem_of_getElem? (i := 1568) (by decide +kernel), Or.inl rfl⟩⟩
theorem g_M_76_i : q_GR "ProofHallModel" 76 12 37 "<init>" := ⟨"[I", by decide, ⟨_, _, _, rfl, by decide, rfl, List.mem_of_getElem? (i := 1569) (by decide +kernel), Or.inl rfl⟩⟩
theorem g_M_79_i : q_GR "ProofHallModel" 79 12 38 "<init>" := ⟨"[I", by decide, ⟨_, _, _, rfl, by decide, rfl, List.mem_of_getElem? (i := 1570) (by decide +kernel), Or.inl rfl⟩⟩
theorem g_M_82_i : q_GR "ProofHallModel" 82 12 39 "<init>" := ⟨"[I", by decide, ⟨_, _, _, rfl, by decide, rfl, List.mem_of_getElem? (i := 1571) (by decide +kernel), Or.inl rfl⟩⟩
theorem g_M_85_i : q_GR "ProofHallModel" 85 12 40 "<init>" := ⟨"[I", by decide, ⟨_, _, _, rfl, by decide, rfl, List.mem_of_getElem? (i := 1572) (by decide +kernel), Or.inl rfl⟩⟩
theorem g_M_88_i : q_GR "ProofHallModel" 88 12 41 "<init>" := ⟨"[I", by decide, ⟨_, _, _, rfl, by decide, rfl, List.mem_of_getElem? (i := 1573) (by decide +kernel), Or.inl rfl⟩⟩
theorem g_M_91_i : q_GR "ProofHallModel" 91 12 42 "<init>" := ⟨"[I", by decide, ⟨_, _, _, rfl, by decide, rfl, List.mem_of_getElem? (i := 1574) (by decide +kernel), Or.inl rfl⟩⟩
theorem g_M_94_i : q_GR "ProofHallModel" 94 12 43 "<init>" := ⟨"[I", by decide, ⟨_, _, _, rfl, by decide, rfl, List.mem_of_getElem? (i := 1575) (by decide +kernel), Or.inl rfl⟩⟩
theorem g_M_97_i : q_G "ProofHallModel" 97 12 47 "I" "<init>" := ⟨_, _, _, rfl, by decide, rfl, List.mem_of_getElem? (i := 1578) (by decide +kernel), Or.inl rfl⟩
theorem g_M_101_i : q_G "ProofHallModel" 101 12 51 "I" "<init>" := ⟨_, _, _, rfl, by decide, rfl, List.mem_of_getElem? (i := 1582) (by decide +kernel), Or.inl rfl⟩
theorem g_M_104_i : q_GR "ProofHallModel" 104 12 52 "<init>" := ⟨"[B", by decide, ⟨_, _, _, rfl, by decide, rfl, List.mem_of_getElem? (i := 1583) (by decide +kernel), Or.inr ⟨rfl, rfl, rfl⟩⟩⟩
theorem g_M_107_i : q_GR "ProofHallModel" 107 12 53 "<init>" := ⟨"[B", by decide, ⟨_, _, _, rfl, by decide, rfl, List.mem_of_getElem? (i := 1584) (by decide +kernel), Or.inr ⟨rfl, rfl, rfl⟩⟩⟩
theorem k_M_110 : Cond.constant "ProofHallModel" 110 49152 ∈ tables_1 := List.mem_of_getElem? (i := 1531) (by decide +kernel)
theorem g_M_111_i : q_GR "ProofHallModel" 111 12 54 "<init>" := ⟨"[B", by decide, ⟨_, _, _, rfl, by decide, rfl, List.mem_of_getElem? (i := 1585) (by decide +kernel), Or.inr ⟨rfl, rfl, rfl⟩⟩⟩
theorem g_M_114_i : q_GR "ProofHallModel" 114 12 56 "<init>" := ⟨"[I", by decide, ⟨_, _, _, rfl, by decide, rfl, List.mem_of_getElem? (i := 1587) (by decide +kernel), Or.inr ⟨rfl, rfl, rfl⟩⟩⟩
theorem g_M_117_i : q_GR "ProofHallModel" 117 12 57 "<init>" := ⟨"[I", by decide, ⟨_, _, _, rfl, by decide, rfl, List.mem_of_getElem? (i := 1588) (by decide +kernel), Or.inr ⟨rfl, rfl, rfl⟩⟩⟩
theorem g_M_120_i : q_GR "ProofHallModel" 120 12 58 "<init>" := ⟨"[I", by decide, ⟨_, _, _, rfl, by decide, rfl, List.mem_of_getElem? (i := 1589) (by decide +kernel), Or.inr ⟨rfl, rfl, rfl⟩⟩⟩
theorem g_M_123_i : q_GR "ProofHallModel" 123 12 59 "<init>" := ⟨"[I", by decide, ⟨_, _, _, rfl, by decide, rfl, List.mem_of_getElem? (i := 1590) (by decide +kernel), Or.inr ⟨rfl, rfl, rfl⟩⟩⟩
theorem g_M_126_i : q_GR "ProofHallModel" 126 12 60 "<init>" := ⟨"[I", by decide, ⟨_, _, _, rfl, by decide, rfl, List.mem_of_getElem? (i := 1591) (by decide +kernel), Or.inr ⟨rfl, rfl, rfl⟩⟩⟩
theorem g_M_129_i : q_G "ProofHallModel" 129 12 62 "I" "<init>" := ⟨_, _, _, rfl, by decide, rfl, List.mem_of_getElem? (i := 1593) (by decide +kernel), Or.inl rfl⟩
theorem g_M_132_i : q_G "ProofHallModel" 132 12 63 "I" "<init>" := ⟨_, _, _, rfl, by decide, rfl, List.mem_of_getElem? (i := 1594) (by decide +kernel), Or.inl rfl⟩
theorem g_M_135_i : q_GR "ProofHallModel" 135 12 64 "<init>" := ⟨"[I", by decide, ⟨_, _, _, rfl, by decide, rfl, List.mem_of_getElem? (i := 1595) (by decide +kernel), Or.inr ⟨rfl, rfl, rfl⟩⟩⟩
theorem g_M_138_i : q_GR "ProofHallModel" 138 12 66 "<init>" := ⟨"[I", by decide, ⟨_, _, _, rfl, by decide, rfl, List.mem_of_getElem? (i := 1597) (by decide +kernel), Or.inr ⟨rfl, rfl, rfl⟩⟩⟩
def s_M_init_94 (σ : q_H) : q_H := (q_setr (q_addAt (q_setr (q_addAt (q_seti (q_seti (q_setr (q_addAt (q_setr (q_addAt (q_setr (q_addAt (q_setr (q_addAt (q_setr (q_addAt (q_setr (q_addAt (q_setr (q_addAt (q_setr (q_addAt (q_seti (q_seti (q_setr (q_addAt (q_setr (q_addAt (q_setr (q_addAt (q_setr (q_addAt (q_setr (q_addAt (q_setr (q_addAt (q_setr (q_addAt (q_setr (q_addAt (q_setr (q_addAt (q_setr (q_addAt (q_setr (q_addAt (q_setr (q_addAt (q_setr (q_addAt (q_setr (q_addAt (q_setr (q_addAt (q_setr (q_addAt (q_setr (q_addAt (q_setr (q_addAt (q_setr (q_addAt (q_setr (q_addAt (q_setr (q_addAt (q_setr (q_addAt (q_setr (q_addAt (q_setr (q_addAt (q_setr (q_addAt (q_setr (q_addAt (q_setr (q_addAt σ 95 (3, 4096)) 94 1 95) 96 (2, 4098)) 94 3 96) 97 (2, 4098)) 94 4 97) 98 (2, 4098)) 94 5 98) 99 (4, 4098)) 94 6 99) 100 (5, 4)) 94 11 100) 101 (4, 400)) 94 12 101) 102 (4, 400)) 94 13 102) 103 (2, 400)) 94 14 103) 104 (2, 400)) 94 15 104) 105 (2, 400)) 94 16 105) 106 (2, 16)) 94 22 106) 107 (2, 16)) 94 23 107) 108 (2, 16)) 94 24 108) 109 (2, 16)) 94 25 109) 110 (2, 9000)) 94 32 110) 111 (2, 9000)) 94 33 111) 112 (2, 9000)) 94 34 112) 113 (2, 9000)) 94 35 113) 114 (2, 9000)) 94 36 114) 115 (2, 9000)) 94 37 115) 116 (2, 9000)) 94 38 116) 117 (2, 9000)) 94 39 117) 118 (2, 9000)) 94 40 118) 119 (2, 9000)) 94 41 119) 120 (2, 9000)) 94 42 120) 121 (2, 9000)) 94 43 121) 94 47 (-1)) 94 51 (-1)) 122 (3, 4096)) 94 52 122) 123 (3, 4096)) 94 53 123) 124 (3, 49152)) 94 54 124) 125 (2, 16)) 94 56 125) 126 (2, 16)) 94 57 126) 127 (2, 16)) 94 58 127) 128 (2, 16)) 94 59 128) 129 (2, 16)) 94 60 129) 94 62 (-1)) 94 63 (-1)) 130 (2, 9000)) 94 64 130) 131 (2, 4096)) 94 66 131)
set_option maxHeartbeats 4000000 in
set_option maxRecDepth 100000 in
theorem c_M_init_94 {ω : q_W} (σ : q_H) (hn : q_n σ = 94) (ht : q_t σ 94 = (1, 12)) : J ω m_M_init 6 37 201078 0 0 0 [(0, .ref 94)] [] σ (fun r τ => r = .inl none ∧ τ = s_M_init_94 σ) := by
  refine j_aload_n d_M_init_0 0 rfl ?_
  refine j_objInit oi_M_1 d_M_init_1 (by decide) (by decide) ?_
  refine j_aload_n d_M_init_4 0 rfl ?_
  refine j_sipush (v := nI 4096) d_M_init_5 (by decide) ?_
  refine k_newB 4096 95 d_M_init_8 rfl (by decide) (by decide) (by decide) (show q_n σ + 1 = 95 by rw [hn]) (by decide) ?_
  refine j_putR g_M_7_i d_M_init_10 ht (q_okW (N := 95) (Nat.le_of_ble_eq_true rfl) (by decide)) (by decide) ?_
  refine j_aload_n d_M_init_13 0 rfl ?_
  refine j_sipush (v := nI 4098) d_M_init_14 (by decide) ?_
  refine k_newI 4098 96 d_M_init_17 rfl (by decide) (by decide) (by decide) rfl (by decide) ?_
  refine j_putR g_M_13_i d_M_init_19 ht (q_okW (N := 96) (Nat.le_of_ble_eq_true rfl) (by decide)) (by decide) ?_
  refine j_aload_n d_M_init_22 0 rfl ?_
  refine j_sipush (v := nI 4098) d_M_init_23 (by decide) ?_
  refine k_newI 4098 97 d_M_init_26 rfl (by decide) (by decide) (by decide) rfl (by decide) ?_
  refine j_putR g_M_17_i d_M_init_28 ht (q_okW (N := 97) (Nat.le_of_ble_eq_true rfl) (by decide)) (by decide) ?_
  refine j_aload_n d_M_init_31 0 rfl ?_
  refine j_sipush (v := nI 4098) d_M_init_32 (by decide) ?_
  refine k_newI 4098 98 d_M_init_35 rfl (by decide) (by decide) (by decide) rfl (by decide) ?_
  refine j_putR g_M_20_i d_M_init_37 ht (q_okW (N := 98) (Nat.le_of_ble_eq_true rfl) (by decide)) (by decide) ?_
  refine j_aload_n d_M_init_40 0 rfl ?_
  refine j_sipush (v := nI 4098) d_M_init_41 (by decide) ?_
  refine k_newL 4098 99 d_M_init_44 rfl (by decide) (by decide) (by decide) rfl (by decide) ?_
  refine j_putR g_M_23_i d_M_init_46 ht (q_okW (N := 99) (Nat.le_of_ble_eq_true rfl) (by decide)) (by decide) ?_
  refine j_aload_n d_M_init_49 0 rfl ?_
  refine k_newEx 100 (k := 4) rfl x_M_29 (List.mem_of_getElem? (i := 1516) (by decide +kernel)) d_M_init_50 d_M_init_53 d_M_init_54 (by decide) (by decide) rfl (by decide) (by decide) (by decide) ?_
  refine j_putR g_M_30_i d_M_init_57 ht (q_okW (N := 100) (Nat.le_of_ble_eq_true rfl) (by decide)) (by decide) ?_
  refine j_aload_n d_M_init_60 0 rfl ?_
  refine j_sipush (v := nI 400) d_M_init_61 (by decide) ?_
  refine k_newL 400 101 d_M_init_64 rfl (by decide) (by decide) (by decide) rfl (by decide) ?_
  refine j_putR g_M_34_i d_M_init_66 ht (q_okW (N := 101) (Nat.le_of_ble_eq_true rfl) (by decide)) (by decide) ?_
  refine j_aload_n d_M_init_69 0 rfl ?_
  refine j_sipush (v := nI 400) d_M_init_70 (by decide) ?_
  refine k_newL 400 102 d_M_init_73 rfl (by decide) (by decide) (by decide) rfl (by decide) ?_
  refine j_putR g_M_37_i d_M_init_75 ht (q_okW (N := 102) (Nat.le_of_ble_eq_true rfl) (by decide)) (by decide) ?_
  refine j_aload_n d_M_init_78 0 rfl ?_
  refine j_sipush (v := nI 400) d_M_init_79 (by decide) ?_
  refine k_newI 400 103 d_M_init_82 rfl (by decide) (by decide) (by decide) rfl (by decide) ?_
  refine j_putR g_M_40_i d_M_init_84 ht (q_okW (N := 103) (Nat.le_of_ble_eq_true rfl) (by decide)) (by decide) ?_
  refine j_aload_n d_M_init_87 0 rfl ?_
  refine j_sipush (v := nI 400) d_M_init_88 (by decide) ?_
  refine k_newI 400 104 d_M_init_91 rfl (by decide) (by decide) (by decide) rfl (by decide) ?_
  refine j_putR g_M_43_i d_M_init_93 ht (q_okW (N := 104) (Nat.le_of_ble_eq_true rfl) (by decide)) (by decide) ?_
  refine j_aload_n d_M_init_96 0 rfl ?_
  refine j_sipush (v := nI 400) d_M_init_97 (by decide) ?_
  refine k_newI 400 105 d_M_init_100 rfl (by decide) (by decide) (by decide) rfl (by decide) ?_
  refine j_putR g_M_46_i d_M_init_102 ht (q_okW (N := 105) (Nat.le_of_ble_eq_true rfl) (by decide)) (by decide) ?_
  refine j_aload_n d_M_init_105 0 rfl ?_
  refine j_bipush (v := nI 16) d_M_init_106 (by decide) ?_
  refine k_newI 16 106 d_M_init_108 rfl (by decide) (by decide) (by decide) rfl (by decide) ?_
  refine j_putR g_M_49_i d_M_init_110 ht (q_okW (N := 106) (Nat.le_of_ble_eq_true rfl) (by decide)) (by decide) ?_
  refine j_aload_n d_M_init_113 0 rfl ?_
  refine j_bipush (v := nI 16) d_M_init_114 (by decide) ?_
  refine k_newI 16 107 d_M_init_116 rfl (by decide) (by decide) (by decide) rfl (by decide) ?_
  refine j_putR g_M_52_i d_M_init_118 ht (q_okW (N := 107) (Nat.le_of_ble_eq_true rfl) (by decide)) (by decide) ?_
  refine j_aload_n d_M_init_121 0 rfl ?_
  refine j_bipush (v := nI 16) d_M_init_122 (by decide) ?_
  refine k_newI 16 108 d_M_init_124 rfl (by decide) (by decide) (by decide) rfl (by decide) ?_
  refine j_putR g_M_55_i d_M_init_126 ht (q_okW (N := 108) (Nat.le_of_ble_eq_true rfl) (by decide)) (by decide) ?_
  refine j_aload_n d_M_init_129 0 rfl ?_
  refine j_bipush (v := nI 16) d_M_init_130 (by decide) ?_
  refine k_newI 16 109 d_M_init_132 rfl (by decide) (by decide) (by decide) rfl (by decide) ?_
  refine j_putR g_M_58_i d_M_init_134 ht (q_okW (N := 109) (Nat.le_of_ble_eq_true rfl) (by decide)) (by decide) ?_
  refine j_aload_n d_M_init_137 0 rfl ?_
  refine j_sipush (v := nI 9000) d_M_init_138 (by decide) ?_
  refine k_newI 9000 110 d_M_init_141 rfl (by decide) (by decide) (by decide) rfl (by decide) ?_
  refine j_putR g_M_61_i d_M_init_143 ht (q_okW (N := 110) (Nat.le_of_ble_eq_true rfl) (by decide)) (by decide) ?_
  refine j_aload_n d_M_init_146 0 rfl ?_
  refine j_sipush (v := nI 9000) d_M_init_147 (by decide) ?_
  refine k_newI 9000 111 d_M_init_150 rfl (by decide) (by decide) (by decide) rfl (by decide) ?_
  refine j_putR g_M_64_i d_M_init_152 ht (q_okW (N := 111) (Nat.le_of_ble_eq_true rfl) (by decide)) (by decide) ?_
  refine j_aload_n d_M_init_155 0 rfl ?_
  refine j_sipush (v := nI 9000) d_M_init_156 (by decide) ?_
  refine k_newI 9000 112 d_M_init_159 rfl (by decide) (by decide) (by decide) rfl (by decide) ?_
  refine j_putR g_M_67_i d_M_init_161 ht (q_okW (N := 112) (Nat.le_of_ble_eq_true rfl) (by decide)) (by decide) ?_
  refine j_aload_n d_M_init_164 0 rfl ?_
  refine j_sipush (v := nI 9000) d_M_init_165 (by decide) ?_
  refine k_newI 9000 113 d_M_init_168 rfl (by decide) (by decide) (by decide) rfl (by decide) ?_
  refine j_putR g_M_70_i d_M_init_170 ht (q_okW (N := 113) (Nat.le_of_ble_eq_true rfl) (by decide)) (by decide) ?_
  refine j_aload_n d_M_init_173 0 rfl ?_
  refine j_sipush (v := nI 9000) d_M_init_174 (by decide) ?_
  refine k_newI 9000 114 d_M_init_177 rfl (by decide) (by decide) (by decide) rfl (by decide) ?_
  refine j_putR g_M_73_i d_M_init_179 ht (q_okW (N := 114) (Nat.le_of_ble_eq_true rfl) (by decide)) (by decide) ?_
  refine j_aload_n d_M_init_182 0 rfl ?_
  refine j_sipush (v := nI 9000) d_M_init_183 (by decide) ?_
  refine k_newI 9000 115 d_M_init_186 rfl (by decide) (by decide) (by decide) rfl (by decide) ?_
  refine j_putR g_M_76_i d_M_init_188 ht (q_okW (N := 115) (Nat.le_of_ble_eq_true rfl) (by decide)) (by decide) ?_
  refine j_aload_n d_M_init_191 0 rfl ?_
  refine j_sipush (v := nI 9000) d_M_init_192 (by decide) ?_
  refine k_newI 9000 116 d_M_init_195 rfl (by decide) (by decide) (by decide) rfl (by decide) ?_
  refine j_putR g_M_79_i d_M_init_197 ht (q_okW (N := 116) (Nat.le_of_ble_eq_true rfl) (by decide)) (by decide) ?_
  refine j_aload_n d_M_init_200 0 rfl ?_
  refine j_sipush (v := nI 9000) d_M_init_201 (by decide) ?_
  refine k_newI 9000 117 d_M_init_204 rfl (by decide) (by decide) (by decide) rfl (by decide) ?_
  refine j_putR g_M_82_i d_M_init_206 ht (q_okW (N := 117) (Nat.le_of_ble_eq_true rfl) (by decide)) (by decide) ?_
  refine j_aload_n d_M_init_209 0 rfl ?_
  refine j_sipush (v := nI 9000) d_M_init_210 (by decide) ?_
  refine k_newI 9000 118 d_M_init_213 rfl (by decide) (by decide) (by decide) rfl (by decide) ?_
  refine j_putR g_M_85_i d_M_init_215 ht (q_okW (N := 118) (Nat.le_of_ble_eq_true rfl) (by decide)) (by decide) ?_
  refine j_aload_n d_M_init_218 0 rfl ?_
  refine j_sipush (v := nI 9000) d_M_init_219 (by decide) ?_
  refine k_newI 9000 119 d_M_init_222 rfl (by decide) (by decide) (by decide) rfl (by decide) ?_
  refine j_putR g_M_88_i d_M_init_224 ht (q_okW (N := 119) (Nat.le_of_ble_eq_true rfl) (by decide)) (by decide) ?_
  refine j_aload_n d_M_init_227 0 rfl ?_
  refine j_sipush (v := nI 9000) d_M_init_228 (by decide) ?_
  refine k_newI 9000 120 d_M_init_231 rfl (by decide) (by decide) (by decide) rfl (by decide) ?_
  refine j_putR g_M_91_i d_M_init_233 ht (q_okW (N := 120) (Nat.le_of_ble_eq_true rfl) (by decide)) (by decide) ?_
  refine j_aload_n d_M_init_236 0 rfl ?_
  refine j_sipush (v := nI 9000) d_M_init_237 (by decide) ?_
  refine k_newI 9000 121 d_M_init_240 rfl (by decide) (by decide) (by decide) rfl (by decide) ?_
  refine j_putR g_M_94_i d_M_init_242 ht (q_okW (N := 121) (Nat.le_of_ble_eq_true rfl) (by decide)) (by decide) ?_
  refine j_aload_n d_M_init_245 0 rfl ?_
  refine j_iconst (v := (-1)) d_M_init_246 (by decide) ?_
  refine j_putI g_M_97_i d_M_init_247 ht (q_okW (N := 121) (Nat.le_of_ble_eq_true rfl) (by decide)) ?_
  refine j_aload_n d_M_init_250 0 rfl ?_
  refine j_iconst (v := (-1)) d_M_init_251 (by decide) ?_
  refine j_putI g_M_101_i d_M_init_252 ht (q_okW (N := 121) (Nat.le_of_ble_eq_true rfl) (by decide)) ?_
  refine j_aload_n d_M_init_255 0 rfl ?_
  refine j_sipush (v := nI 4096) d_M_init_256 (by decide) ?_
  refine k_newB 4096 122 d_M_init_259 rfl (by decide) (by decide) (by decide) rfl (by decide) ?_
  refine j_putR g_M_104_i d_M_init_261 ht (q_okW (N := 122) (Nat.le_of_ble_eq_true rfl) (by decide)) (by decide) ?_
  refine j_aload_n d_M_init_264 0 rfl ?_
  refine j_sipush (v := nI 4096) d_M_init_265 (by decide) ?_
  refine k_newB 4096 123 d_M_init_268 rfl (by decide) (by decide) (by decide) rfl (by decide) ?_
  refine j_putR g_M_107_i d_M_init_270 ht (q_okW (N := 123) (Nat.le_of_ble_eq_true rfl) (by decide)) (by decide) ?_
  refine j_aload_n d_M_init_273 0 rfl ?_
  refine j_ldc (v := nI 49152) k_M_110 d_M_init_274 ?_
  refine k_newB 49152 124 d_M_init_276 rfl (by decide) (by decide) (by decide) rfl (by decide) ?_
  refine j_putR g_M_111_i d_M_init_278 ht (q_okW (N := 124) (Nat.le_of_ble_eq_true rfl) (by decide)) (by decide) ?_
  refine j_aload_n d_M_init_281 0 rfl ?_
  refine j_bipush (v := nI 16) d_M_init_282 (by decide) ?_
  refine k_newI 16 125 d_M_init_284 rfl (by decide) (by decide) (by decide) rfl (by decide) ?_
  refine j_putR g_M_114_i d_M_init_286 ht (q_okW (N := 125) (Nat.le_of_ble_eq_true rfl) (by decide)) (by decide) ?_
  refine j_aload_n d_M_init_289 0 rfl ?_
  refine j_bipush (v := nI 16) d_M_init_290 (by decide) ?_
  refine k_newI 16 126 d_M_init_292 rfl (by decide) (by decide) (by decide) rfl (by decide) ?_
  refine j_putR g_M_117_i d_M_init_294 ht (q_okW (N := 126) (Nat.le_of_ble_eq_true rfl) (by decide)) (by decide) ?_
  refine j_aload_n d_M_init_297 0 rfl ?_
  refine j_bipush (v := nI 16) d_M_init_298 (by decide) ?_
  refine k_newI 16 127 d_M_init_300 rfl (by decide) (by decide) (by decide) rfl (by decide) ?_
  refine j_putR g_M_120_i d_M_init_302 ht (q_okW (N := 127) (Nat.le_of_ble_eq_true rfl) (by decide)) (by decide) ?_
  refine j_aload_n d_M_init_305 0 rfl ?_
  refine j_bipush (v := nI 16) d_M_init_306 (by decide) ?_
  refine k_newI 16 128 d_M_init_308 rfl (by decide) (by decide) (by decide) rfl (by decide) ?_
  refine j_putR g_M_123_i d_M_init_310 ht (q_okW (N := 128) (Nat.le_of_ble_eq_true rfl) (by decide)) (by decide) ?_
  refine j_aload_n d_M_init_313 0 rfl ?_
  refine j_bipush (v := nI 16) d_M_init_314 (by decide) ?_
  refine k_newI 16 129 d_M_init_316 rfl (by decide) (by decide) (by decide) rfl (by decide) ?_
  refine j_putR g_M_126_i d_M_init_318 ht (q_okW (N := 129) (Nat.le_of_ble_eq_true rfl) (by decide)) (by decide) ?_
  refine j_aload_n d_M_init_321 0 rfl ?_
  refine j_iconst (v := (-1)) d_M_init_322 (by decide) ?_
  refine j_putI g_M_129_i d_M_init_323 ht (q_okW (N := 129) (Nat.le_of_ble_eq_true rfl) (by decide)) ?_
  refine j_aload_n d_M_init_326 0 rfl ?_
  refine j_iconst (v := (-1)) d_M_init_327 (by decide) ?_
  refine j_putI g_M_132_i d_M_init_328 ht (q_okW (N := 129) (Nat.le_of_ble_eq_true rfl) (by decide)) ?_
  refine j_aload_n d_M_init_331 0 rfl ?_
  refine j_sipush (v := nI 9000) d_M_init_332 (by decide) ?_
  refine k_newI 9000 130 d_M_init_335 rfl (by decide) (by decide) (by decide) rfl (by decide) ?_
  refine j_putR g_M_135_i d_M_init_337 ht (q_okW (N := 130) (Nat.le_of_ble_eq_true rfl) (by decide)) (by decide) ?_
  refine j_aload_n d_M_init_340 0 rfl ?_
  refine j_sipush (v := nI 4096) d_M_init_341 (by decide) ?_
  refine k_newI 4096 131 d_M_init_344 rfl (by decide) (by decide) (by decide) rfl (by decide) ?_
  refine j_putR g_M_138_i d_M_init_346 ht (q_okW (N := 131) (Nat.le_of_ble_eq_true rfl) (by decide)) (by decide) ?_
  exact j_vret d_M_init_349 rfl (by decide) (by decide) ⟨rfl, rfl⟩
