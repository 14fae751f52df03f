/-! THE CLAIM OUT OF ONE WALK OF THE LAW'S BODY. Your part is whole_start (and what it stands on); all else here is the same for every law, but numbers. -/
def R_law : String := "TriggerBaseLaw"
def lw_P (b : Addr) (xs : List Int32) (args : Array Value) (s : State) : Prop := args = #[.ref b] ∧ s.IntsAt b xs ∧ xs.length ≤ 2048 ∧ (Jvm.Cond.and given_1 narrow_1).before args s = true
def lw_Q (_ : Array Value) (s : State) (o : Outcome) (t : State) : Prop := o = .returned (some (.int 1)) ∧ Framed s o t [] 600000 7302250
def lw_Z (below : List Frame) (a : Array Value) (s : State) : State → Prop := fun t => ∃ o, t.status = .running ∧ Ended t below o ∧ lw_Q a s o t
/-- the law's own end, with 1 on the stack, nothing written that was there before, its room as the claim has it -/
theorem lw_ret {p : Program} {l : Launch} {e : Env} {s : State} {m : MethodId} {below : List Frame} {meth : Method} {c : Code} {b : Nat} (hx : p.tables.exec = Jvm.exec) (hb : c.code = code) (hr : meth.sig.returnType = ret) (hlocks : meth.locks = false) {pc : Nat} {H : Heap} {ls : Array Slot} (hdg : decode code pc = .ok (.ireturn, 1)) : W p l e room_1 s m #[Value.ref b] below meth c H [] 600000 7302250 (lw_Z below #[Value.ref b] s) (F0 m pc ls [.int 1]) := by
  intro T hT X
  obtain ⟨fs, hret, hrun, hended, hW, hframe⟩ := X.leave (v := some (.int 1)) (hlocks := hlocks) (fun h => by rw [hr] at h; cases h)
  have hmeth' : T.vm.method? m = some meth := X.method'
  refine ⟨T.setFrames fs, ?_, .returned (some (.int 1)), hrun, hended, rfl, ⟨_, rfl⟩, hW, hframe⟩
  jvm_step X.here [X.here.top, hx, hb, hdg, hmeth', hr, ret, narrow_b1]
  (try refine ⟨rfl, ?_⟩); (try refine ⟨rfl, ?_⟩)
  first | (intro acts; rw [hret _ acts rfl rfl rfl]) | rw [hret _ _ rfl rfl rfl]
  exact Steps.refl _
/-- what holds at the law's entry: the machine, the code, the tables' words (any of lw_tbl by 'hts w (by decide +kernel)'), the script of L ints xs at the cell b, what the Statement gives of the start (any of its parts by flat_of_before) -/
def lw_At (p : Program) (s : State) (m : MethodId) (meth : Method) (c : Code) (b L : Nat) (xs : Nat → Int32) : Prop :=
  p.tables.exec = Jvm.exec ∧ c.code = code ∧ meth.sig.returnType = ret ∧ c.maxLocals = 4 ∧ s.vm.findClass R_law = some m.cls ∧ (∀ w ∈ lw_tbl, w.before #[Value.ref b] s = true) ∧ va_X b L xs s s.heap ∧ b < s.heap.size ∧ meth.locks = false ∧ (Jvm.Cond.and given_1 narrow_1).before #[Value.ref b] s = true
theorem dw_0 : decode code 0 = .ok (.new 7, 3) := by decide +kernel
theorem dw_3 : decode code 3 = .ok (.dup, 1) := by decide +kernel
theorem dw_4 : decode code 4 = .ok (.invokespecial 9, 3) := by decide +kernel
theorem dw_7 : decode code 7 = .ok (.astore_n 1, 1) := by decide +kernel
theorem dw_8 : decode code 8 = .ok (.new 10, 3) := by decide +kernel
theorem dw_11 : decode code 11 = .ok (.dup, 1) := by decide +kernel
theorem dw_12 : decode code 12 = .ok (.invokespecial 12, 3) := by decide +kernel
theorem dw_15 : decode code 15 = .ok (.astore_n 2, 1) := by decide +kernel
theorem dw_16 : decode code 16 = .ok (.iconst 0, 1) := by decide +kernel
theorem dw_17 : decode code 17 = .ok (.istore_n 3, 1) := by decide +kernel
theorem dw_18 : decode code 18 = .ok (.iload_n 3, 1) := by decide +kernel
theorem dw_19 : decode code 19 = .ok (.aload_n 0, 1) := by decide +kernel
theorem dw_20 : decode code 20 = .ok (.arraylength, 1) := by decide +kernel
theorem dw_21 : decode code 21 = .ok (.iconst 4, 1) := by decide +kernel
theorem dw_22 : decode code 22 = .ok (.isub, 1) := by decide +kernel
theorem dw_23 : decode code 23 = .ok (.if_icmp .gt 358, 3) := by decide +kernel
theorem dw_26 : decode code 26 = .ok (.aload_n 0, 1) := by decide +kernel
theorem dw_27 : decode code 27 = .ok (.iload_n 3, 1) := by decide +kernel
theorem dw_28 : decode code 28 = .ok (.iaload, 1) := by decide +kernel
theorem dw_29 : decode code 29 = .ok (.bipush 15, 2) := by decide +kernel
theorem dw_31 : decode code 31 = .ok (.iand, 1) := by decide +kernel
theorem dw_32 : decode code 32 = .ok (.tableswitch 343 0 10 #[60, 73, 96, 109, 122, 165, 198, 241, 254, 277, 300], 60) := by decide +kernel
theorem dw_92 : decode code 92 = .ok (.aload_n 1, 1) := by decide +kernel
theorem dw_93 : decode code 93 = .ok (.invokevirtual 13, 3) := by decide +kernel
theorem dw_96 : decode code 96 = .ok (.aload_n 2, 1) := by decide +kernel
theorem dw_97 : decode code 97 = .ok (.invokevirtual 17, 3) := by decide +kernel
theorem dw_100 : decode code 100 = .ok (.if_icmp .eq 275, 3) := by decide +kernel
theorem dw_103 : decode code 103 = .ok (.iconst 0, 1) := by decide +kernel
theorem dw_104 : decode code 104 = .ok (.ireturn, 1) := by decide +kernel
theorem dw_105 : decode code 105 = .ok (.aload_n 1, 1) := by decide +kernel
theorem dw_106 : decode code 106 = .ok (.aload_n 0, 1) := by decide +kernel
theorem dw_107 : decode code 107 = .ok (.iload_n 3, 1) := by decide +kernel
theorem dw_108 : decode code 108 = .ok (.iconst 1, 1) := by decide +kernel
theorem dw_109 : decode code 109 = .ok (.iadd, 1) := by decide +kernel
theorem dw_110 : decode code 110 = .ok (.iaload, 1) := by decide +kernel
theorem dw_111 : decode code 111 = .ok (.invokevirtual 18, 3) := by decide +kernel
theorem dw_114 : decode code 114 = .ok (.aload_n 2, 1) := by decide +kernel
theorem dw_115 : decode code 115 = .ok (.aload_n 0, 1) := by decide +kernel
theorem dw_116 : decode code 116 = .ok (.iload_n 3, 1) := by decide +kernel
theorem dw_117 : decode code 117 = .ok (.iconst 1, 1) := by decide +kernel
theorem dw_118 : decode code 118 = .ok (.iadd, 1) := by decide +kernel
theorem dw_119 : decode code 119 = .ok (.iaload, 1) := by decide +kernel
theorem dw_120 : decode code 120 = .ok (.invokevirtual 22, 3) := by decide +kernel
theorem dw_123 : decode code 123 = .ok (.if_icmp .eq 252, 3) := by decide +kernel
theorem dw_126 : decode code 126 = .ok (.iconst 0, 1) := by decide +kernel
theorem dw_127 : decode code 127 = .ok (.ireturn, 1) := by decide +kernel
theorem dw_128 : decode code 128 = .ok (.aload_n 1, 1) := by decide +kernel
theorem dw_129 : decode code 129 = .ok (.invokevirtual 23, 3) := by decide +kernel
theorem dw_132 : decode code 132 = .ok (.aload_n 2, 1) := by decide +kernel
theorem dw_133 : decode code 133 = .ok (.invokevirtual 26, 3) := by decide +kernel
theorem dw_136 : decode code 136 = .ok (.if_icmp .eq 239, 3) := by decide +kernel
theorem dw_139 : decode code 139 = .ok (.iconst 0, 1) := by decide +kernel
theorem dw_140 : decode code 140 = .ok (.ireturn, 1) := by decide +kernel
theorem dw_141 : decode code 141 = .ok (.aload_n 1, 1) := by decide +kernel
theorem dw_142 : decode code 142 = .ok (.invokevirtual 27, 3) := by decide +kernel
theorem dw_145 : decode code 145 = .ok (.aload_n 2, 1) := by decide +kernel
theorem dw_146 : decode code 146 = .ok (.invokevirtual 30, 3) := by decide +kernel
theorem dw_149 : decode code 149 = .ok (.if_icmp .eq 226, 3) := by decide +kernel
theorem dw_152 : decode code 152 = .ok (.iconst 0, 1) := by decide +kernel
theorem dw_153 : decode code 153 = .ok (.ireturn, 1) := by decide +kernel
theorem dw_154 : decode code 154 = .ok (.aload_n 1, 1) := by decide +kernel
theorem dw_155 : decode code 155 = .ok (.aload_n 0, 1) := by decide +kernel
theorem dw_156 : decode code 156 = .ok (.iload_n 3, 1) := by decide +kernel
theorem dw_157 : decode code 157 = .ok (.iconst 1, 1) := by decide +kernel
theorem dw_158 : decode code 158 = .ok (.iadd, 1) := by decide +kernel
theorem dw_159 : decode code 159 = .ok (.iaload, 1) := by decide +kernel
theorem dw_160 : decode code 160 = .ok (.aload_n 0, 1) := by decide +kernel
theorem dw_161 : decode code 161 = .ok (.iload_n 3, 1) := by decide +kernel
theorem dw_162 : decode code 162 = .ok (.iconst 2, 1) := by decide +kernel
theorem dw_163 : decode code 163 = .ok (.iadd, 1) := by decide +kernel
theorem dw_164 : decode code 164 = .ok (.iaload, 1) := by decide +kernel
theorem dw_165 : decode code 165 = .ok (.aload_n 0, 1) := by decide +kernel
theorem dw_166 : decode code 166 = .ok (.iload_n 3, 1) := by decide +kernel
theorem dw_167 : decode code 167 = .ok (.iconst 3, 1) := by decide +kernel
theorem dw_168 : decode code 168 = .ok (.iadd, 1) := by decide +kernel
theorem dw_169 : decode code 169 = .ok (.iaload, 1) := by decide +kernel
theorem dw_170 : decode code 170 = .ok (.invokevirtual 31, 3) := by decide +kernel
theorem dw_173 : decode code 173 = .ok (.aload_n 2, 1) := by decide +kernel
theorem dw_174 : decode code 174 = .ok (.aload_n 0, 1) := by decide +kernel
theorem dw_175 : decode code 175 = .ok (.iload_n 3, 1) := by decide +kernel
theorem dw_176 : decode code 176 = .ok (.iconst 1, 1) := by decide +kernel
theorem dw_177 : decode code 177 = .ok (.iadd, 1) := by decide +kernel
theorem dw_178 : decode code 178 = .ok (.iaload, 1) := by decide +kernel
theorem dw_179 : decode code 179 = .ok (.aload_n 0, 1) := by decide +kernel
theorem dw_180 : decode code 180 = .ok (.iload_n 3, 1) := by decide +kernel
theorem dw_181 : decode code 181 = .ok (.iconst 2, 1) := by decide +kernel
theorem dw_182 : decode code 182 = .ok (.iadd, 1) := by decide +kernel
theorem dw_183 : decode code 183 = .ok (.iaload, 1) := by decide +kernel
theorem dw_184 : decode code 184 = .ok (.aload_n 0, 1) := by decide +kernel
theorem dw_185 : decode code 185 = .ok (.iload_n 3, 1) := by decide +kernel
theorem dw_186 : decode code 186 = .ok (.iconst 3, 1) := by decide +kernel
theorem dw_187 : decode code 187 = .ok (.iadd, 1) := by decide +kernel
theorem dw_188 : decode code 188 = .ok (.iaload, 1) := by decide +kernel
theorem dw_189 : decode code 189 = .ok (.invokevirtual 35, 3) := by decide +kernel
theorem dw_192 : decode code 192 = .ok (.if_icmp .eq 183, 3) := by decide +kernel
theorem dw_195 : decode code 195 = .ok (.iconst 0, 1) := by decide +kernel
theorem dw_196 : decode code 196 = .ok (.ireturn, 1) := by decide +kernel
theorem dw_197 : decode code 197 = .ok (.aload_n 1, 1) := by decide +kernel
theorem dw_198 : decode code 198 = .ok (.aload_n 0, 1) := by decide +kernel
theorem dw_199 : decode code 199 = .ok (.iload_n 3, 1) := by decide +kernel
theorem dw_200 : decode code 200 = .ok (.iconst 1, 1) := by decide +kernel
theorem dw_201 : decode code 201 = .ok (.iadd, 1) := by decide +kernel
theorem dw_202 : decode code 202 = .ok (.iaload, 1) := by decide +kernel
theorem dw_203 : decode code 203 = .ok (.aload_n 0, 1) := by decide +kernel
theorem dw_204 : decode code 204 = .ok (.iload_n 3, 1) := by decide +kernel
theorem dw_205 : decode code 205 = .ok (.iconst 2, 1) := by decide +kernel
theorem dw_206 : decode code 206 = .ok (.iadd, 1) := by decide +kernel
theorem dw_207 : decode code 207 = .ok (.iaload, 1) := by decide +kernel
theorem dw_208 : decode code 208 = .ok (.invokevirtual 36, 3) := by decide +kernel
theorem dw_211 : decode code 211 = .ok (.aload_n 2, 1) := by decide +kernel
theorem dw_212 : decode code 212 = .ok (.aload_n 0, 1) := by decide +kernel
theorem dw_213 : decode code 213 = .ok (.iload_n 3, 1) := by decide +kernel
theorem dw_214 : decode code 214 = .ok (.iconst 1, 1) := by decide +kernel
theorem dw_215 : decode code 215 = .ok (.iadd, 1) := by decide +kernel
theorem dw_216 : decode code 216 = .ok (.iaload, 1) := by decide +kernel
theorem dw_217 : decode code 217 = .ok (.aload_n 0, 1) := by decide +kernel
theorem dw_218 : decode code 218 = .ok (.iload_n 3, 1) := by decide +kernel
theorem dw_219 : decode code 219 = .ok (.iconst 2, 1) := by decide +kernel
theorem dw_220 : decode code 220 = .ok (.iadd, 1) := by decide +kernel
theorem dw_221 : decode code 221 = .ok (.iaload, 1) := by decide +kernel
theorem dw_222 : decode code 222 = .ok (.invokevirtual 40, 3) := by decide +kernel
theorem dw_225 : decode code 225 = .ok (.if_icmp .eq 150, 3) := by decide +kernel
theorem dw_228 : decode code 228 = .ok (.iconst 0, 1) := by decide +kernel
theorem dw_229 : decode code 229 = .ok (.ireturn, 1) := by decide +kernel
theorem dw_230 : decode code 230 = .ok (.aload_n 1, 1) := by decide +kernel
theorem dw_231 : decode code 231 = .ok (.aload_n 0, 1) := by decide +kernel
theorem dw_232 : decode code 232 = .ok (.iload_n 3, 1) := by decide +kernel
theorem dw_233 : decode code 233 = .ok (.iconst 1, 1) := by decide +kernel
theorem dw_234 : decode code 234 = .ok (.iadd, 1) := by decide +kernel
theorem dw_235 : decode code 235 = .ok (.iaload, 1) := by decide +kernel
theorem dw_236 : decode code 236 = .ok (.aload_n 0, 1) := by decide +kernel
theorem dw_237 : decode code 237 = .ok (.iload_n 3, 1) := by decide +kernel
theorem dw_238 : decode code 238 = .ok (.iconst 2, 1) := by decide +kernel
theorem dw_239 : decode code 239 = .ok (.iadd, 1) := by decide +kernel
theorem dw_240 : decode code 240 = .ok (.iaload, 1) := by decide +kernel
theorem dw_241 : decode code 241 = .ok (.aload_n 0, 1) := by decide +kernel
theorem dw_242 : decode code 242 = .ok (.iload_n 3, 1) := by decide +kernel
theorem dw_243 : decode code 243 = .ok (.iconst 3, 1) := by decide +kernel
theorem dw_244 : decode code 244 = .ok (.iadd, 1) := by decide +kernel
theorem dw_245 : decode code 245 = .ok (.iaload, 1) := by decide +kernel
theorem dw_246 : decode code 246 = .ok (.invokevirtual 41, 3) := by decide +kernel
theorem dw_249 : decode code 249 = .ok (.aload_n 2, 1) := by decide +kernel
theorem dw_250 : decode code 250 = .ok (.aload_n 0, 1) := by decide +kernel
theorem dw_251 : decode code 251 = .ok (.iload_n 3, 1) := by decide +kernel
theorem dw_252 : decode code 252 = .ok (.iconst 1, 1) := by decide +kernel
theorem dw_253 : decode code 253 = .ok (.iadd, 1) := by decide +kernel
theorem dw_254 : decode code 254 = .ok (.iaload, 1) := by decide +kernel
theorem dw_255 : decode code 255 = .ok (.aload_n 0, 1) := by decide +kernel
theorem dw_256 : decode code 256 = .ok (.iload_n 3, 1) := by decide +kernel
theorem dw_257 : decode code 257 = .ok (.iconst 2, 1) := by decide +kernel
theorem dw_258 : decode code 258 = .ok (.iadd, 1) := by decide +kernel
theorem dw_259 : decode code 259 = .ok (.iaload, 1) := by decide +kernel
theorem dw_260 : decode code 260 = .ok (.aload_n 0, 1) := by decide +kernel
theorem dw_261 : decode code 261 = .ok (.iload_n 3, 1) := by decide +kernel
theorem dw_262 : decode code 262 = .ok (.iconst 3, 1) := by decide +kernel
theorem dw_263 : decode code 263 = .ok (.iadd, 1) := by decide +kernel
theorem dw_264 : decode code 264 = .ok (.iaload, 1) := by decide +kernel
theorem dw_265 : decode code 265 = .ok (.invokevirtual 44, 3) := by decide +kernel
theorem dw_268 : decode code 268 = .ok (.if_icmp .eq 107, 3) := by decide +kernel
theorem dw_271 : decode code 271 = .ok (.iconst 0, 1) := by decide +kernel
theorem dw_272 : decode code 272 = .ok (.ireturn, 1) := by decide +kernel
theorem dw_273 : decode code 273 = .ok (.aload_n 1, 1) := by decide +kernel
theorem dw_274 : decode code 274 = .ok (.invokevirtual 45, 3) := by decide +kernel
theorem dw_277 : decode code 277 = .ok (.aload_n 2, 1) := by decide +kernel
theorem dw_278 : decode code 278 = .ok (.invokevirtual 48, 3) := by decide +kernel
theorem dw_281 : decode code 281 = .ok (.if_icmp .eq 94, 3) := by decide +kernel
theorem dw_284 : decode code 284 = .ok (.iconst 0, 1) := by decide +kernel
theorem dw_285 : decode code 285 = .ok (.ireturn, 1) := by decide +kernel
theorem dw_286 : decode code 286 = .ok (.aload_n 1, 1) := by decide +kernel
theorem dw_287 : decode code 287 = .ok (.aload_n 0, 1) := by decide +kernel
theorem dw_288 : decode code 288 = .ok (.iload_n 3, 1) := by decide +kernel
theorem dw_289 : decode code 289 = .ok (.iconst 1, 1) := by decide +kernel
theorem dw_290 : decode code 290 = .ok (.iadd, 1) := by decide +kernel
theorem dw_291 : decode code 291 = .ok (.iaload, 1) := by decide +kernel
theorem dw_292 : decode code 292 = .ok (.invokevirtual 49, 3) := by decide +kernel
theorem dw_295 : decode code 295 = .ok (.aload_n 2, 1) := by decide +kernel
theorem dw_296 : decode code 296 = .ok (.aload_n 0, 1) := by decide +kernel
theorem dw_297 : decode code 297 = .ok (.iload_n 3, 1) := by decide +kernel
theorem dw_298 : decode code 298 = .ok (.iconst 1, 1) := by decide +kernel
theorem dw_299 : decode code 299 = .ok (.iadd, 1) := by decide +kernel
theorem dw_300 : decode code 300 = .ok (.iaload, 1) := by decide +kernel
theorem dw_301 : decode code 301 = .ok (.invokevirtual 53, 3) := by decide +kernel
theorem dw_304 : decode code 304 = .ok (.if_icmp .eq 71, 3) := by decide +kernel
theorem dw_307 : decode code 307 = .ok (.iconst 0, 1) := by decide +kernel
theorem dw_308 : decode code 308 = .ok (.ireturn, 1) := by decide +kernel
theorem dw_309 : decode code 309 = .ok (.aload_n 1, 1) := by decide +kernel
theorem dw_310 : decode code 310 = .ok (.aload_n 0, 1) := by decide +kernel
theorem dw_311 : decode code 311 = .ok (.iload_n 3, 1) := by decide +kernel
theorem dw_312 : decode code 312 = .ok (.iconst 1, 1) := by decide +kernel
theorem dw_313 : decode code 313 = .ok (.iadd, 1) := by decide +kernel
theorem dw_314 : decode code 314 = .ok (.iaload, 1) := by decide +kernel
theorem dw_315 : decode code 315 = .ok (.invokevirtual 54, 3) := by decide +kernel
theorem dw_318 : decode code 318 = .ok (.aload_n 2, 1) := by decide +kernel
theorem dw_319 : decode code 319 = .ok (.aload_n 0, 1) := by decide +kernel
theorem dw_320 : decode code 320 = .ok (.iload_n 3, 1) := by decide +kernel
theorem dw_321 : decode code 321 = .ok (.iconst 1, 1) := by decide +kernel
theorem dw_322 : decode code 322 = .ok (.iadd, 1) := by decide +kernel
theorem dw_323 : decode code 323 = .ok (.iaload, 1) := by decide +kernel
theorem dw_324 : decode code 324 = .ok (.invokevirtual 57, 3) := by decide +kernel
theorem dw_327 : decode code 327 = .ok (.if_icmp .eq 48, 3) := by decide +kernel
theorem dw_330 : decode code 330 = .ok (.iconst 0, 1) := by decide +kernel
theorem dw_331 : decode code 331 = .ok (.ireturn, 1) := by decide +kernel
theorem dw_332 : decode code 332 = .ok (.aload_n 1, 1) := by decide +kernel
theorem dw_333 : decode code 333 = .ok (.aload_n 0, 1) := by decide +kernel
theorem dw_334 : decode code 334 = .ok (.iload_n 3, 1) := by decide +kernel
theorem dw_335 : decode code 335 = .ok (.iconst 1, 1) := by decide +kernel
theorem dw_336 : decode code 336 = .ok (.iadd, 1) := by decide +kernel
theorem dw_337 : decode code 337 = .ok (.iaload, 1) := by decide +kernel
theorem dw_338 : decode code 338 = .ok (.aload_n 0, 1) := by decide +kernel
theorem dw_339 : decode code 339 = .ok (.iload_n 3, 1) := by decide +kernel
theorem dw_340 : decode code 340 = .ok (.iconst 2, 1) := by decide +kernel
theorem dw_341 : decode code 341 = .ok (.iadd, 1) := by decide +kernel
theorem dw_342 : decode code 342 = .ok (.iaload, 1) := by decide +kernel
theorem dw_343 : decode code 343 = .ok (.aload_n 0, 1) := by decide +kernel
theorem dw_344 : decode code 344 = .ok (.iload_n 3, 1) := by decide +kernel
theorem dw_345 : decode code 345 = .ok (.iconst 3, 1) := by decide +kernel
theorem dw_346 : decode code 346 = .ok (.iadd, 1) := by decide +kernel
theorem dw_347 : decode code 347 = .ok (.iaload, 1) := by decide +kernel
theorem dw_348 : decode code 348 = .ok (.invokevirtual 58, 3) := by decide +kernel
theorem dw_351 : decode code 351 = .ok (.aload_n 2, 1) := by decide +kernel
theorem dw_352 : decode code 352 = .ok (.aload_n 0, 1) := by decide +kernel
theorem dw_353 : decode code 353 = .ok (.iload_n 3, 1) := by decide +kernel
theorem dw_354 : decode code 354 = .ok (.iconst 1, 1) := by decide +kernel
theorem dw_355 : decode code 355 = .ok (.iadd, 1) := by decide +kernel
theorem dw_356 : decode code 356 = .ok (.iaload, 1) := by decide +kernel
theorem dw_357 : decode code 357 = .ok (.aload_n 0, 1) := by decide +kernel
theorem dw_358 : decode code 358 = .ok (.iload_n 3, 1) := by decide +kernel
theorem dw_359 : decode code 359 = .ok (.iconst 2, 1) := by decide +kernel
theorem dw_360 : decode code 360 = .ok (.iadd, 1) := by decide +kernel
theorem dw_361 : decode code 361 = .ok (.iaload, 1) := by decide +kernel
theorem dw_362 : decode code 362 = .ok (.aload_n 0, 1) := by decide +kernel
theorem dw_363 : decode code 363 = .ok (.iload_n 3, 1) := by decide +kernel
theorem dw_364 : decode code 364 = .ok (.iconst 3, 1) := by decide +kernel
theorem dw_365 : decode code 365 = .ok (.iadd, 1) := by decide +kernel
theorem dw_366 : decode code 366 = .ok (.iaload, 1) := by decide +kernel
theorem dw_367 : decode code 367 = .ok (.invokevirtual 61, 3) := by decide +kernel
theorem dw_370 : decode code 370 = .ok (.if_icmp .eq 5, 3) := by decide +kernel
theorem dw_373 : decode code 373 = .ok (.iconst 0, 1) := by decide +kernel
theorem dw_374 : decode code 374 = .ok (.ireturn, 1) := by decide +kernel
theorem dw_375 : decode code 375 = .ok (.iinc 3 4, 3) := by decide +kernel
theorem dw_378 : decode code 378 = .ok (.goto (-360), 3) := by decide +kernel
theorem dw_381 : decode code 381 = .ok (.iconst 1, 1) := by decide +kernel
theorem dw_382 : decode code 382 = .ok (.ireturn, 1) := by decide +kernel
