/-! The law: its loop, a call at a time. -/
theorem d_law_0 : decode code 0 = .ok (.new 8, 3) := by decide +kernel
theorem d_law_3 : decode code 3 = .ok (.dup, 1) := by decide +kernel
theorem d_law_4 : decode code 4 = .ok (.invokespecial 25, 3) := by decide +kernel
theorem d_law_7 : decode code 7 = .ok (.astore_n 1, 1) := by decide +kernel
theorem d_law_8 : decode code 8 = .ok (.new 26, 3) := by decide +kernel
theorem d_law_11 : decode code 11 = .ok (.dup, 1) := by decide +kernel
theorem d_law_12 : decode code 12 = .ok (.invokespecial 28, 3) := by decide +kernel
theorem d_law_15 : decode code 15 = .ok (.astore_n 2, 1) := by decide +kernel
theorem d_law_16 : decode code 16 = .ok (.iconst 1, 1) := by decide +kernel
theorem d_law_17 : decode code 17 = .ok (.newarray .long, 2) := by decide +kernel
theorem d_law_19 : decode code 19 = .ok (.astore_n 3, 1) := by decide +kernel
theorem d_law_20 : decode code 20 = .ok (.iconst 0, 1) := by decide +kernel
theorem d_law_21 : decode code 21 = .ok (.istore 4, 2) := by decide +kernel
theorem d_law_23 : decode code 23 = .ok (.iload 4, 2) := by decide +kernel
theorem d_law_25 : decode code 25 = .ok (.aload_n 0, 1) := by decide +kernel
theorem d_law_26 : decode code 26 = .ok (.arraylength, 1) := by decide +kernel
theorem d_law_27 : decode code 27 = .ok (.iconst 3, 1) := by decide +kernel
theorem d_law_28 : decode code 28 = .ok (.isub, 1) := by decide +kernel
theorem d_law_29 : decode code 29 = .ok (.if_icmp .gt 349, 3) := by decide +kernel
theorem d_law_32 : decode code 32 = .ok (.aload_n 0, 1) := by decide +kernel
theorem d_law_33 : decode code 33 = .ok (.iload 4, 2) := by decide +kernel
theorem d_law_35 : decode code 35 = .ok (.iaload, 1) := by decide +kernel
theorem d_law_36 : decode code 36 = .ok (.bipush 15, 2) := by decide +kernel
theorem d_law_38 : decode code 38 = .ok (.iand, 1) := by decide +kernel
theorem d_law_39 : decode code 39 = .ok (.tableswitch 333 0 8 #[49, 76, 89, 147, 185, 212, 282, 295, 308], 49) := by decide +kernel
theorem d_law_88 : decode code 88 = .ok (.aload_n 1, 1) := by decide +kernel
theorem d_law_89 : decode code 89 = .ok (.aload_n 0, 1) := by decide +kernel
theorem d_law_90 : decode code 90 = .ok (.iload 4, 2) := by decide +kernel
theorem d_law_92 : decode code 92 = .ok (.iconst 1, 1) := by decide +kernel
theorem d_law_93 : decode code 93 = .ok (.iadd, 1) := by decide +kernel
theorem d_law_94 : decode code 94 = .ok (.iaload, 1) := by decide +kernel
theorem d_law_95 : decode code 95 = .ok (.i2c, 1) := by decide +kernel
theorem d_law_96 : decode code 96 = .ok (.invokevirtual 29, 3) := by decide +kernel
theorem d_law_99 : decode code 99 = .ok (.aload_n 2, 1) := by decide +kernel
theorem d_law_100 : decode code 100 = .ok (.aload_n 0, 1) := by decide +kernel
theorem d_law_101 : decode code 101 = .ok (.iload 4, 2) := by decide +kernel
theorem d_law_103 : decode code 103 = .ok (.iconst 1, 1) := by decide +kernel
theorem d_law_104 : decode code 104 = .ok (.iadd, 1) := by decide +kernel
theorem d_law_105 : decode code 105 = .ok (.iaload, 1) := by decide +kernel
theorem d_law_106 : decode code 106 = .ok (.i2c, 1) := by decide +kernel
theorem d_law_107 : decode code 107 = .ok (.invokevirtual 33, 3) := by decide +kernel
theorem d_law_110 : decode code 110 = .ok (.if_icmp .eq 262, 3) := by decide +kernel
theorem d_law_113 : decode code 113 = .ok (.iconst 0, 1) := by decide +kernel
theorem d_law_114 : decode code 114 = .ok (.ireturn, 1) := by decide +kernel
theorem d_law_115 : decode code 115 = .ok (.aload_n 1, 1) := by decide +kernel
theorem d_law_116 : decode code 116 = .ok (.invokevirtual 34, 3) := by decide +kernel
theorem d_law_119 : decode code 119 = .ok (.aload_n 2, 1) := by decide +kernel
theorem d_law_120 : decode code 120 = .ok (.invokevirtual 38, 3) := by decide +kernel
theorem d_law_123 : decode code 123 = .ok (.if_icmp .eq 249, 3) := by decide +kernel
theorem d_law_126 : decode code 126 = .ok (.iconst 0, 1) := by decide +kernel
theorem d_law_127 : decode code 127 = .ok (.ireturn, 1) := by decide +kernel
theorem d_law_128 : decode code 128 = .ok (.aload_n 1, 1) := by decide +kernel
theorem d_law_129 : decode code 129 = .ok (.aload_n 0, 1) := by decide +kernel
theorem d_law_130 : decode code 130 = .ok (.iload 4, 2) := by decide +kernel
theorem d_law_132 : decode code 132 = .ok (.iconst 1, 1) := by decide +kernel
theorem d_law_133 : decode code 133 = .ok (.iadd, 1) := by decide +kernel
theorem d_law_134 : decode code 134 = .ok (.iaload, 1) := by decide +kernel
theorem d_law_135 : decode code 135 = .ok (.i2c, 1) := by decide +kernel
theorem d_law_136 : decode code 136 = .ok (.aload_n 3, 1) := by decide +kernel
theorem d_law_137 : decode code 137 = .ok (.invokestatic 39, 3) := by decide +kernel
theorem d_law_140 : decode code 140 = .ok (.istore 5, 2) := by decide +kernel
theorem d_law_142 : decode code 142 = .ok (.aload_n 2, 1) := by decide +kernel
theorem d_law_143 : decode code 143 = .ok (.aload_n 0, 1) := by decide +kernel
theorem d_law_144 : decode code 144 = .ok (.iload 4, 2) := by decide +kernel
theorem d_law_146 : decode code 146 = .ok (.iconst 1, 1) := by decide +kernel
theorem d_law_147 : decode code 147 = .ok (.iadd, 1) := by decide +kernel
theorem d_law_148 : decode code 148 = .ok (.iaload, 1) := by decide +kernel
theorem d_law_149 : decode code 149 = .ok (.i2c, 1) := by decide +kernel
theorem d_law_150 : decode code 150 = .ok (.invokevirtual 44, 3) := by decide +kernel
theorem d_law_153 : decode code 153 = .ok (.istore 6, 2) := by decide +kernel
theorem d_law_155 : decode code 155 = .ok (.aload_n 2, 1) := by decide +kernel
theorem d_law_156 : decode code 156 = .ok (.invokevirtual 45, 3) := by decide +kernel
theorem d_law_159 : decode code 159 = .ok (.iload 5, 2) := by decide +kernel
theorem d_law_161 : decode code 161 = .ok (.if_icmp .eq 5, 3) := by decide +kernel
theorem d_law_164 : decode code 164 = .ok (.iconst 0, 1) := by decide +kernel
theorem d_law_165 : decode code 165 = .ok (.ireturn, 1) := by decide +kernel
theorem d_law_166 : decode code 166 = .ok (.iload 5, 2) := by decide +kernel
theorem d_law_168 : decode code 168 = .ok (.ifCond .ne 15, 3) := by decide +kernel
theorem d_law_171 : decode code 171 = .ok (.aload_n 3, 1) := by decide +kernel
theorem d_law_172 : decode code 172 = .ok (.iconst 0, 1) := by decide +kernel
theorem d_law_173 : decode code 173 = .ok (.laload, 1) := by decide +kernel
theorem d_law_174 : decode code 174 = .ok (.iload 6, 2) := by decide +kernel
theorem d_law_176 : decode code 176 = .ok (.i2l, 1) := by decide +kernel
theorem d_law_177 : decode code 177 = .ok (.lcmp, 1) := by decide +kernel
theorem d_law_178 : decode code 178 = .ok (.ifCond .eq 5, 3) := by decide +kernel
theorem d_law_181 : decode code 181 = .ok (.iconst 0, 1) := by decide +kernel
theorem d_law_182 : decode code 182 = .ok (.ireturn, 1) := by decide +kernel
theorem d_law_183 : decode code 183 = .ok (.goto 189, 3) := by decide +kernel
theorem d_law_186 : decode code 186 = .ok (.aload_n 1, 1) := by decide +kernel
theorem d_law_187 : decode code 187 = .ok (.aload_n 0, 1) := by decide +kernel
theorem d_law_188 : decode code 188 = .ok (.iload 4, 2) := by decide +kernel
theorem d_law_190 : decode code 190 = .ok (.iconst 1, 1) := by decide +kernel
theorem d_law_191 : decode code 191 = .ok (.iadd, 1) := by decide +kernel
theorem d_law_192 : decode code 192 = .ok (.iaload, 1) := by decide +kernel
theorem d_law_193 : decode code 193 = .ok (.i2c, 1) := by decide +kernel
theorem d_law_194 : decode code 194 = .ok (.invokestatic 48, 3) := by decide +kernel
theorem d_law_197 : decode code 197 = .ok (.istore 5, 2) := by decide +kernel
theorem d_law_199 : decode code 199 = .ok (.aload_n 2, 1) := by decide +kernel
theorem d_law_200 : decode code 200 = .ok (.aload_n 0, 1) := by decide +kernel
theorem d_law_201 : decode code 201 = .ok (.iload 4, 2) := by decide +kernel
theorem d_law_203 : decode code 203 = .ok (.iconst 1, 1) := by decide +kernel
theorem d_law_204 : decode code 204 = .ok (.iadd, 1) := by decide +kernel
theorem d_law_205 : decode code 205 = .ok (.iaload, 1) := by decide +kernel
theorem d_law_206 : decode code 206 = .ok (.i2c, 1) := by decide +kernel
theorem d_law_207 : decode code 207 = .ok (.invokevirtual 51, 3) := by decide +kernel
theorem d_law_210 : decode code 210 = .ok (.aload_n 2, 1) := by decide +kernel
theorem d_law_211 : decode code 211 = .ok (.invokevirtual 45, 3) := by decide +kernel
theorem d_law_214 : decode code 214 = .ok (.iload 5, 2) := by decide +kernel
theorem d_law_216 : decode code 216 = .ok (.if_icmp .eq 5, 3) := by decide +kernel
theorem d_law_219 : decode code 219 = .ok (.iconst 0, 1) := by decide +kernel
theorem d_law_220 : decode code 220 = .ok (.ireturn, 1) := by decide +kernel
theorem d_law_221 : decode code 221 = .ok (.goto 151, 3) := by decide +kernel
theorem d_law_224 : decode code 224 = .ok (.aload_n 1, 1) := by decide +kernel
theorem d_law_225 : decode code 225 = .ok (.aload_n 0, 1) := by decide +kernel
theorem d_law_226 : decode code 226 = .ok (.iload 4, 2) := by decide +kernel
theorem d_law_228 : decode code 228 = .ok (.iconst 1, 1) := by decide +kernel
theorem d_law_229 : decode code 229 = .ok (.iadd, 1) := by decide +kernel
theorem d_law_230 : decode code 230 = .ok (.iaload, 1) := by decide +kernel
theorem d_law_231 : decode code 231 = .ok (.i2c, 1) := by decide +kernel
theorem d_law_232 : decode code 232 = .ok (.invokevirtual 52, 3) := by decide +kernel
theorem d_law_235 : decode code 235 = .ok (.aload_n 2, 1) := by decide +kernel
theorem d_law_236 : decode code 236 = .ok (.aload_n 0, 1) := by decide +kernel
theorem d_law_237 : decode code 237 = .ok (.iload 4, 2) := by decide +kernel
theorem d_law_239 : decode code 239 = .ok (.iconst 1, 1) := by decide +kernel
theorem d_law_240 : decode code 240 = .ok (.iadd, 1) := by decide +kernel
theorem d_law_241 : decode code 241 = .ok (.iaload, 1) := by decide +kernel
theorem d_law_242 : decode code 242 = .ok (.i2c, 1) := by decide +kernel
theorem d_law_243 : decode code 243 = .ok (.invokevirtual 55, 3) := by decide +kernel
theorem d_law_246 : decode code 246 = .ok (.if_icmp .eq 126, 3) := by decide +kernel
theorem d_law_249 : decode code 249 = .ok (.iconst 0, 1) := by decide +kernel
theorem d_law_250 : decode code 250 = .ok (.ireturn, 1) := by decide +kernel
theorem d_law_251 : decode code 251 = .ok (.aload_n 1, 1) := by decide +kernel
theorem d_law_252 : decode code 252 = .ok (.aload_n 0, 1) := by decide +kernel
theorem d_law_253 : decode code 253 = .ok (.iload 4, 2) := by decide +kernel
theorem d_law_255 : decode code 255 = .ok (.iconst 1, 1) := by decide +kernel
theorem d_law_256 : decode code 256 = .ok (.iadd, 1) := by decide +kernel
theorem d_law_257 : decode code 257 = .ok (.iaload, 1) := by decide +kernel
theorem d_law_258 : decode code 258 = .ok (.i2c, 1) := by decide +kernel
theorem d_law_259 : decode code 259 = .ok (.aload_n 0, 1) := by decide +kernel
theorem d_law_260 : decode code 260 = .ok (.iload 4, 2) := by decide +kernel
theorem d_law_262 : decode code 262 = .ok (.iconst 2, 1) := by decide +kernel
theorem d_law_263 : decode code 263 = .ok (.iadd, 1) := by decide +kernel
theorem d_law_264 : decode code 264 = .ok (.iaload, 1) := by decide +kernel
theorem d_law_265 : decode code 265 = .ok (.aload_n 3, 1) := by decide +kernel
theorem d_law_266 : decode code 266 = .ok (.invokestatic 56, 3) := by decide +kernel
theorem d_law_269 : decode code 269 = .ok (.istore 5, 2) := by decide +kernel
theorem d_law_271 : decode code 271 = .ok (.aload_n 2, 1) := by decide +kernel
theorem d_law_272 : decode code 272 = .ok (.aload_n 0, 1) := by decide +kernel
theorem d_law_273 : decode code 273 = .ok (.iload 4, 2) := by decide +kernel
theorem d_law_275 : decode code 275 = .ok (.iconst 1, 1) := by decide +kernel
theorem d_law_276 : decode code 276 = .ok (.iadd, 1) := by decide +kernel
theorem d_law_277 : decode code 277 = .ok (.iaload, 1) := by decide +kernel
theorem d_law_278 : decode code 278 = .ok (.i2c, 1) := by decide +kernel
theorem d_law_279 : decode code 279 = .ok (.aload_n 0, 1) := by decide +kernel
theorem d_law_280 : decode code 280 = .ok (.iload 4, 2) := by decide +kernel
theorem d_law_282 : decode code 282 = .ok (.iconst 2, 1) := by decide +kernel
theorem d_law_283 : decode code 283 = .ok (.iadd, 1) := by decide +kernel
theorem d_law_284 : decode code 284 = .ok (.iaload, 1) := by decide +kernel
theorem d_law_285 : decode code 285 = .ok (.invokevirtual 59, 3) := by decide +kernel
theorem d_law_288 : decode code 288 = .ok (.istore 6, 2) := by decide +kernel
theorem d_law_290 : decode code 290 = .ok (.aload_n 2, 1) := by decide +kernel
theorem d_law_291 : decode code 291 = .ok (.invokevirtual 45, 3) := by decide +kernel
theorem d_law_294 : decode code 294 = .ok (.iload 5, 2) := by decide +kernel
theorem d_law_296 : decode code 296 = .ok (.if_icmp .eq 5, 3) := by decide +kernel
theorem d_law_299 : decode code 299 = .ok (.iconst 0, 1) := by decide +kernel
theorem d_law_300 : decode code 300 = .ok (.ireturn, 1) := by decide +kernel
theorem d_law_301 : decode code 301 = .ok (.iload 5, 2) := by decide +kernel
theorem d_law_303 : decode code 303 = .ok (.ifCond .ne 15, 3) := by decide +kernel
theorem d_law_306 : decode code 306 = .ok (.aload_n 3, 1) := by decide +kernel
theorem d_law_307 : decode code 307 = .ok (.iconst 0, 1) := by decide +kernel
theorem d_law_308 : decode code 308 = .ok (.laload, 1) := by decide +kernel
theorem d_law_309 : decode code 309 = .ok (.iload 6, 2) := by decide +kernel
theorem d_law_311 : decode code 311 = .ok (.i2l, 1) := by decide +kernel
theorem d_law_312 : decode code 312 = .ok (.lcmp, 1) := by decide +kernel
theorem d_law_313 : decode code 313 = .ok (.ifCond .eq 5, 3) := by decide +kernel
theorem d_law_316 : decode code 316 = .ok (.iconst 0, 1) := by decide +kernel
theorem d_law_317 : decode code 317 = .ok (.ireturn, 1) := by decide +kernel
theorem d_law_318 : decode code 318 = .ok (.goto 54, 3) := by decide +kernel
theorem d_law_321 : decode code 321 = .ok (.aload_n 1, 1) := by decide +kernel
theorem d_law_322 : decode code 322 = .ok (.invokevirtual 60, 3) := by decide +kernel
theorem d_law_325 : decode code 325 = .ok (.aload_n 2, 1) := by decide +kernel
theorem d_law_326 : decode code 326 = .ok (.invokevirtual 63, 3) := by decide +kernel
theorem d_law_329 : decode code 329 = .ok (.if_icmp .eq 43, 3) := by decide +kernel
theorem d_law_332 : decode code 332 = .ok (.iconst 0, 1) := by decide +kernel
theorem d_law_333 : decode code 333 = .ok (.ireturn, 1) := by decide +kernel
theorem d_law_334 : decode code 334 = .ok (.aload_n 1, 1) := by decide +kernel
theorem d_law_335 : decode code 335 = .ok (.invokevirtual 64, 3) := by decide +kernel
theorem d_law_338 : decode code 338 = .ok (.aload_n 2, 1) := by decide +kernel
theorem d_law_339 : decode code 339 = .ok (.invokevirtual 67, 3) := by decide +kernel
theorem d_law_342 : decode code 342 = .ok (.if_icmp .eq 30, 3) := by decide +kernel
theorem d_law_345 : decode code 345 = .ok (.iconst 0, 1) := by decide +kernel
theorem d_law_346 : decode code 346 = .ok (.ireturn, 1) := by decide +kernel
theorem d_law_347 : decode code 347 = .ok (.aload_n 1, 1) := by decide +kernel
theorem d_law_348 : decode code 348 = .ok (.aload_n 0, 1) := by decide +kernel
theorem d_law_349 : decode code 349 = .ok (.iload 4, 2) := by decide +kernel
theorem d_law_351 : decode code 351 = .ok (.iconst 1, 1) := by decide +kernel
theorem d_law_352 : decode code 352 = .ok (.iadd, 1) := by decide +kernel
theorem d_law_353 : decode code 353 = .ok (.iaload, 1) := by decide +kernel
theorem d_law_354 : decode code 354 = .ok (.invokevirtual 68, 3) := by decide +kernel
theorem d_law_357 : decode code 357 = .ok (.aload_n 2, 1) := by decide +kernel
theorem d_law_358 : decode code 358 = .ok (.aload_n 0, 1) := by decide +kernel
theorem d_law_359 : decode code 359 = .ok (.iload 4, 2) := by decide +kernel
theorem d_law_361 : decode code 361 = .ok (.iconst 1, 1) := by decide +kernel
theorem d_law_362 : decode code 362 = .ok (.iadd, 1) := by decide +kernel
theorem d_law_363 : decode code 363 = .ok (.iaload, 1) := by decide +kernel
theorem d_law_364 : decode code 364 = .ok (.invokevirtual 72, 3) := by decide +kernel
theorem d_law_367 : decode code 367 = .ok (.if_icmp .eq 5, 3) := by decide +kernel
theorem d_law_370 : decode code 370 = .ok (.iconst 0, 1) := by decide +kernel
theorem d_law_371 : decode code 371 = .ok (.ireturn, 1) := by decide +kernel
theorem d_law_372 : decode code 372 = .ok (.iinc 4 3, 3) := by decide +kernel
theorem d_law_375 : decode code 375 = .ok (.goto (-352), 3) := by decide +kernel
theorem d_law_378 : decode code 378 = .ok (.iconst 1, 1) := by decide +kernel
theorem d_law_379 : decode code 379 = .ok (.ireturn, 1) := by decide +kernel
def zLF (p : Program) (l : Launch) (s : State) (m : MethodId) (args : Array Value) (meth : Method) (c : Code) (G : hz_G) (y : MethodName) (b L : Nat) (xs : Nat → Int32) : Prop :=
  hz_B lw_tbl zAO zCl zKT G y code 7 ret p s m args meth c ∧ y.cls = R_L ∧ hz_YB G s ∧ l.stackTraces = false ∧ va_X b L xs s s.heap ∧ b < s.heap.size ∧ G.2.2 = s.heap ∧ L ≤ 1536
def zLs (G : hz_G) (b : Nat) (ls : Array Slot) (k : Nat) : Prop := lv_has ls 7 [(0, .ref b), (1, .ref G.2.2.size), (2, .ref (G.2.2.size + 15)), (3, .ref (G.2.2.size + 39)), (4, .int (hz_n (3 * k : Nat)))]
def zWI (G : hz_G) (κ : zK) (μ : zM) (ω : Nat → Int64) (D : hz_H) (E : Nat → Option zT) (n : Nat) (H : Heap) (locs : List Loc) : Prop :=
  jI E κ μ ∧ zE D E ∧ 40 ≤ n ∧ (∀ i, n ≤ i → D i = none) ∧ hz_R zCl G (zH κ μ ω D) n H ∧ ∀ q ∈ locs, G.2.2.size ≤ q.base
theorem zch (x : Int32) : 0 ≤ (hz_ch x).toInt ∧ (hz_ch x).toInt < 65536 := by rw [hz_ch_toInt]; omega
theorem zcmp0 (x : Int64) : lg_cmp x x = 0 := by
  unfold lg_cmp
  rw [if_neg (by rw [gt_iff_lt, Int64.lt_iff_toInt_lt]; omega), if_pos rfl]
section
variable {p : Program} {l : Launch} {e : Env} {s : State} {m : MethodId} {args : Array Value} {below : List Frame} {meth : Method} {c : Code} {Q : State → Prop} {G : hz_G} {y : MethodName} {b L k : Nat} {xs : Nat → Int32} {κ : zK} {μ : zM} {ω : Nat → Int64} {D : hz_H} {E : Nat → Option zT} {n : Nat} {H : Heap} {locs : List Loc} {ls : Array Slot} {cells slots pc : Nat} {rest : List Value} {h : hz_H}
def zNext (p : Program) (l : Launch) (e : Env) (s : State) (m : MethodId) (args : Array Value) (below : List Frame) (meth : Method) (c : Code) (Q : State → Prop) (G : hz_G) (b k : Nat) : Prop :=
  ∀ (κ : zK) (μ : zM) (ω : Nat → Int64) (D : hz_H) (E : Nat → Option zT) (n : Nat) (H : Heap) (locs : List Loc) (ls : Array Slot) (cells slots : Nat), zWI G κ μ ω D E n H locs → zLs G b ls k → cells ≤ 100 + 10 * (k + 1) → slots ≤ 40000 + 200 * (k + 1) → W p l e room_1 s m args below meth c H locs cells slots Q (F0 m 372 ls [])
/-- a place of the script -/
theorem law_rd {j : Nat} (F : zLF p l s m args meth c G y b L xs) (hk : 3 * k + 3 ≤ L) (hj : j < 3) (hR : hz_R zCl G h n H) (hl : ∀ q ∈ locs, G.2.2.size ≤ q.base) (f0 : ls[0]? = some (.val (.ref b))) (f4 : ls[4]? = some (.val (.int (hz_n (3 * k : Nat)))))
    (d0 : decode code pc = .ok (.aload_n 0, 1)) (d1 : decode code (pc + 1) = .ok (.iload 4, 2)) (d3 : decode code (pc + 3) = .ok (.iconst j, 1)) (d4 : decode code (pc + 4) = .ok (.iadd, 1)) (d5 : decode code (pc + 5) = .ok (.iaload, 1))
    (kk : W p l e room_1 s m args below meth c H locs cells slots Q (F0 m (pc + 6) ls (.int (xs (3 * k + j)) :: rest))) : W p l e room_1 s m args below meth c H locs cells slots Q (F0 m pc ls rest) := by
  obtain ⟨B, hy, hYB, hl9, hX, hbl, hG, hL⟩ := F
  obtain ⟨hx, hb, -⟩ := id B
  have hS := wz_S hR hl
  rw [hG] at hS
  refine lv_aload_n hx hb d0 rfl f0 ?_
  refine lv_iload hx hb d1 f4 ?_
  refine lv_iconst (v := hz_n j) hx hb d3 rfl ?_
  refine lv_iadd hx hb d4 ?_
  have e1 : hz_n (3 * k : Nat) + hz_n j = hz_n (3 * k + j : Nat) := by rw [zn_add]; congr 1
  have z1 : (hz_n (3 * k + j : Nat)).toInt = (3 * k + j : Nat) := zt _ (by omega)
  rw [e1]
  have hin : vp_in (hz_n (3 * k + j : Nat)) L := hz_in ⟨by rw [z1]; omega, by rw [z1, Int.toNat_natCast]; omega⟩
  have hA : ¬ (fun q => s.heap.size ≤ q) b := by show ¬ s.heap.size ≤ b; omega
  refine va_sld (A := fun q => s.heap.size ≤ q) hx hb hX hbl hA hS hin d5 ?_
  have e2 : (hz_n (3 * k + j : Nat)).toNatClampNeg = 3 * k + j := by show (hz_n (3 * k + j : Nat)).toInt.toNat = _; rw [z1, Int.toNat_natCast]
  rw [e2]
  exact kk
theorem law_type (F : zLF p l s m args meth c G y b L xs) (hk : 3 * k + 3 ≤ L) (hnx : zNext p l e s m args below meth c Q G b k) (I : zWI G κ μ ω D E n H locs) (hls : zLs G b ls k) (hc : cells ≤ 100 + 10 * k) (hs : slots ≤ 40000 + 200 * k) : W p l e room_1 s m args below meth c H locs cells slots Q (F0 m 88 ls []) := by
  obtain ⟨J, hE, hn, hD, hR, hl⟩ := I
  have F' := F
  obtain ⟨B, hy, hYB, hl9, hX, hbl, hG, hL⟩ := F'
  obtain ⟨hx, hb, -⟩ := id B
  have f0 := lv_at hls 0 rfl
  have f1 := lv_at hls 1 rfl
  have f2 := lv_at hls 2 rfl
  have f3 := lv_at hls 3 rfl
  have f4 := lv_at hls 4 rfl
  have fz := hls.1
  obtain ⟨t1, t2, t3, t4⟩ := jType (zch (xs (3 * k + 1))) J
  refine lv_aload_n hx hb d_law_88 rfl f1 ?_
  refine law_rd (j := 1) F hk (by omega) hR hl f0 f4 d_law_89 d_law_90 d_law_92 d_law_93 d_law_94 ?_
  refine lv_i2c (v := hz_ch _) hx hb d_law_95 rfl ?_
  refine wz_callV (as2 := [.int (hz_ch (xs (3 * k + 1)))]) (i := 0) (ci := 4) (r := (R_F, T_F, 4)) (rest := []) B hy cb_L_29 im_F_type se_F_type (k_F_type t1 (hz_ch_nar _)) (by decide) ⟨by show cells + 0 ≤ 601024; omega, by show slots + 0 ≤ 7293034; omega⟩ rfl rfl rfl (by simp [Value.category]) rfl d_law_96 hR hl fz ?_
  intro r9 h9 n9 H1 locs1 hp hR1 hl1
  obtain ⟨rfl, rfl, rfl⟩ := hp
  change W p l e room_1 s m args below meth c H1 locs1 cells slots Q (F0 m 99 ls [.int _])
  refine lv_aload_n hx hb d_law_99 rfl f2 ?_
  refine law_rd (j := 1) F hk (by omega) hR1 hl1 f0 f4 d_law_100 d_law_101 d_law_103 d_law_104 d_law_105 ?_
  refine lv_i2c (v := hz_ch _) hx hb d_law_106 rfl ?_
  refine wz_callV (as2 := [.int (hz_ch (xs (3 * k + 1)))]) (i := 15) (ci := 5) (r := (R_M, T_M, 39)) (rest := [.int _]) B hy cb_L_33 im_M_type se_M_type (k_M_type t2) (by decide) ⟨by show cells + 0 ≤ 601024; omega, by show slots + 0 ≤ 7293034; omega⟩ rfl rfl rfl (by simp [Value.category]) rfl d_law_107 hR1 hl1 fz ?_
  intro r9 h9 n9 H2 locs2 hp hR2 hl2
  obtain ⟨rfl, rfl, rfl⟩ := hp
  change W p l e room_1 s m args below meth c H2 locs2 cells slots Q (F0 m 110 ls [.int _, .int _])
  refine lv_icmp_eq hx hb d_law_110 (tgt := 372) rfl (fun _ => ?_) (fun hne => absurd t3 hne)
  exact hnx _ _ _ _ _ _ _ _ _ _ _ ⟨t4, hE, hn, hD, hR2, hl2⟩ hls (by omega) (by omega)
theorem law_wipe (F : zLF p l s m args meth c G y b L xs) (hk : 3 * k + 3 ≤ L) (hnx : zNext p l e s m args below meth c Q G b k) (I : zWI G κ μ ω D E n H locs) (hls : zLs G b ls k) (hc : cells ≤ 100 + 10 * k) (hs : slots ≤ 40000 + 200 * k) : W p l e room_1 s m args below meth c H locs cells slots Q (F0 m 115 ls []) := by
  obtain ⟨J, hE, hn, hD, hR, hl⟩ := I
  have F' := F
  obtain ⟨B, hy, hYB, hl9, hX, hbl, hG, hL⟩ := F'
  obtain ⟨hx, hb, -⟩ := id B
  have f0 := lv_at hls 0 rfl
  have f1 := lv_at hls 1 rfl
  have f2 := lv_at hls 2 rfl
  have f3 := lv_at hls 3 rfl
  have f4 := lv_at hls 4 rfl
  have fz := hls.1
  obtain ⟨t1, t2⟩ := jWipe J
  refine lv_aload_n hx hb d_law_115 rfl f1 ?_
  refine wz_callV (as2 := []) (i := 0) (ci := 4) (r := (R_F, T_F, 4)) (rest := []) B hy cb_L_34 im_F_wipe se_F_wipe (k_F_wipe) (by decide) ⟨by show cells + 0 ≤ 601024; omega, by show slots + 0 ≤ 7293034; omega⟩ rfl rfl rfl (by simp [Value.category]) rfl d_law_116 hR hl fz ?_
  intro r9 h9 n9 H1 locs1 hp hR1 hl1
  obtain ⟨rfl, rfl, rfl⟩ := hp
  change W p l e room_1 s m args below meth c H1 locs1 cells slots Q (F0 m 119 ls [.int _])
  refine lv_aload_n hx hb d_law_119 rfl f2 ?_
  refine wz_callV (as2 := []) (i := 15) (ci := 5) (r := (R_M, T_M, 39)) (rest := [.int _]) B hy cb_L_38 im_M_wipe se_M_wipe (k_M_wipe) (by decide) ⟨by show cells + 0 ≤ 601024; omega, by show slots + 0 ≤ 7293034; omega⟩ rfl rfl rfl (by simp [Value.category]) rfl d_law_120 hR1 hl1 fz ?_
  intro r9 h9 n9 H2 locs2 hp hR2 hl2
  obtain ⟨rfl, rfl, rfl⟩ := hp
  change W p l e room_1 s m args below meth c H2 locs2 cells slots Q (F0 m 123 ls [.int _, .int _])
  refine lv_icmp_eq hx hb d_law_123 (tgt := 372) rfl (fun _ => ?_) (fun hne => absurd t1 hne)
  exact hnx _ _ _ _ _ _ _ _ _ _ _ ⟨t2, hE, hn, hD, hR2, hl2⟩ hls (by omega) (by omega)
theorem law_param (F : zLF p l s m args meth c G y b L xs) (hk : 3 * k + 3 ≤ L) (hnx : zNext p l e s m args below meth c Q G b k) (I : zWI G κ μ ω D E n H locs) (hls : zLs G b ls k) (hc : cells ≤ 100 + 10 * k) (hs : slots ≤ 40000 + 200 * k) : W p l e room_1 s m args below meth c H locs cells slots Q (F0 m 224 ls []) := by
  obtain ⟨J, hE, hn, hD, hR, hl⟩ := I
  have F' := F
  obtain ⟨B, hy, hYB, hl9, hX, hbl, hG, hL⟩ := F'
  obtain ⟨hx, hb, -⟩ := id B
  have f0 := lv_at hls 0 rfl
  have f1 := lv_at hls 1 rfl
  have f2 := lv_at hls 2 rfl
  have f3 := lv_at hls 3 rfl
  have f4 := lv_at hls 4 rfl
  have fz := hls.1
  obtain ⟨v, t1, t2⟩ := jParam (x := hz_ch (xs (3 * k + 1))) J
  refine lv_aload_n hx hb d_law_224 rfl f1 ?_
  refine law_rd (j := 1) F hk (by omega) hR hl f0 f4 d_law_225 d_law_226 d_law_228 d_law_229 d_law_230 ?_
  refine lv_i2c (v := hz_ch _) hx hb d_law_231 rfl ?_
  refine wz_callV (as2 := [.int (hz_ch (xs (3 * k + 1)))]) (i := 0) (ci := 4) (r := (R_F, T_F, 4)) (rest := []) B hy cb_L_52 im_F_parameters se_F_parameters (k_F_parameters hE t1) (by decide) ⟨by show cells + 0 ≤ 601024; omega, by show slots + 0 ≤ 7293034; omega⟩ rfl rfl rfl (by simp [Value.category]) rfl d_law_232 hR hl fz ?_
  intro r9 h9 n9 H1 locs1 hp hR1 hl1
  obtain ⟨rfl, rfl, rfl⟩ := hp
  change W p l e room_1 s m args below meth c H1 locs1 cells slots Q (F0 m 235 ls [.int v])
  refine lv_aload_n hx hb d_law_235 rfl f2 ?_
  refine law_rd (j := 1) F hk (by omega) hR1 hl1 f0 f4 d_law_236 d_law_237 d_law_239 d_law_240 d_law_241 ?_
  refine lv_i2c (v := hz_ch _) hx hb d_law_242 rfl ?_
  refine wz_callV (as2 := [.int (hz_ch (xs (3 * k + 1)))]) (i := 15) (ci := 5) (r := (R_M, T_M, 39)) (rest := [.int v]) B hy cb_L_55 im_M_parameters se_M_parameters (k_M_parameters t2) (by decide) ⟨by show cells + 0 ≤ 601024; omega, by show slots + 0 ≤ 7293034; omega⟩ rfl rfl rfl (by simp [Value.category]) rfl d_law_243 hR1 hl1 fz ?_
  intro r9 h9 n9 H2 locs2 hp hR2 hl2
  obtain ⟨rfl, rfl, rfl⟩ := hp
  change W p l e room_1 s m args below meth c H2 locs2 cells slots Q (F0 m 246 ls [.int v, .int v])
  refine lv_icmp_eq hx hb d_law_246 (tgt := 372) rfl (fun _ => ?_) (fun hne => absurd rfl hne)
  exact hnx _ _ _ _ _ _ _ _ _ _ _ ⟨jI_S (by decide) J, hE, hn, hD, hR2, hl2⟩ hls (by omega) (by omega)
theorem law_entries (F : zLF p l s m args meth c G y b L xs) (hk : 3 * k + 3 ≤ L) (hnx : zNext p l e s m args below meth c Q G b k) (I : zWI G κ μ ω D E n H locs) (hls : zLs G b ls k) (hc : cells ≤ 100 + 10 * k) (hs : slots ≤ 40000 + 200 * k) : W p l e room_1 s m args below meth c H locs cells slots Q (F0 m 321 ls []) := by
  obtain ⟨J, hE, hn, hD, hR, hl⟩ := I
  have F' := F
  obtain ⟨B, hy, hYB, hl9, hX, hbl, hG, hL⟩ := F'
  obtain ⟨hx, hb, -⟩ := id B
  have f0 := lv_at hls 0 rfl
  have f1 := lv_at hls 1 rfl
  have f2 := lv_at hls 2 rfl
  have f3 := lv_at hls 3 rfl
  have f4 := lv_at hls 4 rfl
  have fz := hls.1
  refine lv_aload_n hx hb d_law_321 rfl f1 ?_
  refine wz_callV (as2 := []) (i := 0) (ci := 4) (r := (R_F, T_F, 4)) (rest := []) B hy cb_L_60 im_F_entries se_F_entries (k_F_entries) (by decide) ⟨by show cells + 0 ≤ 601024; omega, by show slots + 0 ≤ 7293034; omega⟩ rfl rfl rfl (by simp [Value.category]) rfl d_law_322 hR hl fz ?_
  intro r9 h9 n9 H1 locs1 hp hR1 hl1
  obtain ⟨rfl, rfl, rfl⟩ := hp
  change W p l e room_1 s m args below meth c H1 locs1 cells slots Q (F0 m 325 ls [.int _])
  refine lv_aload_n hx hb d_law_325 rfl f2 ?_
  refine wz_callV (as2 := []) (i := 15) (ci := 5) (r := (R_M, T_M, 39)) (rest := [.int _]) B hy cb_L_63 im_M_entries se_M_entries (k_M_entries) (by decide) ⟨by show cells + 0 ≤ 601024; omega, by show slots + 0 ≤ 7293034; omega⟩ rfl rfl rfl (by simp [Value.category]) rfl d_law_326 hR1 hl1 fz ?_
  intro r9 h9 n9 H2 locs2 hp hR2 hl2
  obtain ⟨rfl, rfl, rfl⟩ := hp
  change W p l e room_1 s m args below meth c H2 locs2 cells slots Q (F0 m 329 ls [.int _, .int _])
  refine lv_icmp_eq hx hb d_law_329 (tgt := 372) rfl (fun _ => ?_) (fun hne => absurd J.2.2.1 hne)
  exact hnx _ _ _ _ _ _ _ _ _ _ _ ⟨jI_S (by decide) J, hE, hn, hD, hR2, hl2⟩ hls (by omega) (by omega)
theorem law_length (F : zLF p l s m args meth c G y b L xs) (hk : 3 * k + 3 ≤ L) (hnx : zNext p l e s m args below meth c Q G b k) (I : zWI G κ μ ω D E n H locs) (hls : zLs G b ls k) (hc : cells ≤ 100 + 10 * k) (hs : slots ≤ 40000 + 200 * k) : W p l e room_1 s m args below meth c H locs cells slots Q (F0 m 334 ls []) := by
  obtain ⟨J, hE, hn, hD, hR, hl⟩ := I
  have F' := F
  obtain ⟨B, hy, hYB, hl9, hX, hbl, hG, hL⟩ := F'
  obtain ⟨hx, hb, -⟩ := id B
  have f0 := lv_at hls 0 rfl
  have f1 := lv_at hls 1 rfl
  have f2 := lv_at hls 2 rfl
  have f3 := lv_at hls 3 rfl
  have f4 := lv_at hls 4 rfl
  have fz := hls.1
  obtain ⟨np, p1, p2, p3, p4⟩ := J.2.1
  refine lv_aload_n hx hb d_law_334 rfl f1 ?_
  refine wz_callV (as2 := []) (i := 0) (ci := 4) (r := (R_F, T_F, 4)) (rest := []) B hy cb_L_64 im_F_length se_F_length (k_F_length) (by decide) ⟨by show cells + 0 ≤ 601024; omega, by show slots + 0 ≤ 7293034; omega⟩ rfl rfl rfl (by simp [Value.category]) rfl d_law_335 hR hl fz ?_
  intro r9 h9 n9 H1 locs1 hp hR1 hl1
  obtain ⟨rfl, rfl, rfl⟩ := hp
  change W p l e room_1 s m args below meth c H1 locs1 cells slots Q (F0 m 338 ls [.int _])
  refine lv_aload_n hx hb d_law_338 rfl f2 ?_
  refine wz_callV (as2 := []) (i := 15) (ci := 5) (r := (R_M, T_M, 39)) (rest := [.int _]) B hy cb_L_67 im_M_length se_M_length (k_M_length) (by decide) ⟨by show cells + 0 ≤ 601024; omega, by show slots + 0 ≤ 7293034; omega⟩ rfl rfl rfl (by simp [Value.category]) rfl d_law_339 hR1 hl1 fz ?_
  intro r9 h9 n9 H2 locs2 hp hR2 hl2
  obtain ⟨rfl, rfl, rfl⟩ := hp
  change W p l e room_1 s m args below meth c H2 locs2 cells slots Q (F0 m 342 ls [.int _, .int _])
  refine lv_icmp_eq hx hb d_law_342 (tgt := 372) rfl (fun _ => ?_) (fun hne => absurd (p2.trans p3.symm) hne)
  exact hnx _ _ _ _ _ _ _ _ _ _ _ ⟨jI_S (by decide) J, hE, hn, hD, hR2, hl2⟩ hls (by omega) (by omega)
theorem law_char (F : zLF p l s m args meth c G y b L xs) (hk : 3 * k + 3 ≤ L) (hnx : zNext p l e s m args below meth c Q G b k) (I : zWI G κ μ ω D E n H locs) (hls : zLs G b ls k) (hc : cells ≤ 100 + 10 * k) (hs : slots ≤ 40000 + 200 * k) : W p l e room_1 s m args below meth c H locs cells slots Q (F0 m 347 ls []) := by
  obtain ⟨J, hE, hn, hD, hR, hl⟩ := I
  have F' := F
  obtain ⟨B, hy, hYB, hl9, hX, hbl, hG, hL⟩ := F'
  obtain ⟨hx, hb, -⟩ := id B
  have f0 := lv_at hls 0 rfl
  have f1 := lv_at hls 1 rfl
  have f2 := lv_at hls 2 rfl
  have f3 := lv_at hls 3 rfl
  have f4 := lv_at hls 4 rfl
  have fz := hls.1
  obtain ⟨np, p1, p2, p3, p4⟩ := J.2.1
  have w1 : (κ.1 6).toInt ≤ 60 := by rw [p2, zt np (by omega)]; omega
  have w2 : (μ.1 12).toInt ≤ 60 := by rw [p3, zt np (by omega)]; omega
  refine lv_aload_n hx hb d_law_347 rfl f1 ?_
  refine law_rd (j := 1) F hk (by omega) hR hl f0 f4 d_law_348 d_law_349 d_law_351 d_law_352 d_law_353 ?_
  refine wz_callV (as2 := [.int (xs (3 * k + 1))]) (i := 0) (ci := 4) (r := (R_F, T_F, 4)) (rest := []) B hy cb_L_68 im_F_charAt se_F_charAt (k_F_charAt2 w1) (by decide) ⟨by show cells + 0 ≤ 601024; omega, by show slots + 0 ≤ 7293034; omega⟩ rfl rfl rfl (by simp [Value.category]) rfl d_law_354 hR hl fz ?_
  intro r9 h9 n9 H1 locs1 hp hR1 hl1
  obtain ⟨rfl, rfl, rfl⟩ := hp
  change W p l e room_1 s m args below meth c H1 locs1 cells slots Q (F0 m 357 ls [.int _])
  refine lv_aload_n hx hb d_law_357 rfl f2 ?_
  refine law_rd (j := 1) F hk (by omega) hR1 hl1 f0 f4 d_law_358 d_law_359 d_law_361 d_law_362 d_law_363 ?_
  refine wz_callV (as2 := [.int (xs (3 * k + 1))]) (i := 15) (ci := 5) (r := (R_M, T_M, 39)) (rest := [.int _]) B hy cb_L_72 im_M_charAt se_M_charAt (k_M_charAt w2) (by decide) ⟨by show cells + 0 ≤ 601024; omega, by show slots + 0 ≤ 7293034; omega⟩ rfl rfl rfl (by simp [Value.category]) rfl d_law_364 hR1 hl1 fz ?_
  intro r9 h9 n9 H2 locs2 hp hR2 hl2
  obtain ⟨rfl, rfl, rfl⟩ := hp
  change W p l e room_1 s m args below meth c H2 locs2 cells slots Q (F0 m 367 ls [.int _, .int _])
  refine lv_icmp_eq hx hb d_law_367 (tgt := 372) rfl (fun _ => ?_) (fun hne => absurd ?_ hne)
  · exact hnx _ _ _ _ _ _ _ _ _ _ _ ⟨jI_S (by decide) J, hE, hn, hD, hR2, hl2⟩ hls (by omega) (by omega)
  · rw [p2, p3]
    by_cases hq : (xs (3 * k + 1)).toInt < 0 ∨ (hz_n (np : Int)).toInt ≤ (xs (3 * k + 1)).toInt
    · rw [if_pos hq, if_pos hq]
    · rw [if_neg hq, if_neg hq, p4 _ (by rw [zt np (by omega)] at hq; omega)]
end
