-- ===== end of PART A; then your names; then what follows =====
/-! THE CLAIM OUT OF ONE WALK OF THE LAW'S BODY. Your part is whole_start (and what it stands on); all else here is the same for every law, but numbers. -/
def R_law : String := "MatrixSheetsLaw"
def lw_P (b : Addr) (xs : List Int32) (args : Array Value) (s : State) : Prop := args = #[.ref b] ∧ s.IntsAt b xs ∧ xs.length ≤ 1536 ∧ (Jvm.Cond.and given_1 narrow_1).before args s = true
def lw_Q (_ : Array Value) (s : State) (o : Outcome) (t : State) : Prop := o = .returned (some (.int 1)) ∧ Framed s o t [] 1077 15749
def lw_Z (below : List Frame) (a : Array Value) (s : State) : State → Prop := fun t => ∃ o, t.status = .running ∧ Ended t below o ∧ lw_Q a s o t
/-- the law's own end, with 1 on the stack, nothing written that was there before, its room as the claim has it -/
theorem lw_ret {p : Program} {l : Launch} {e : Env} {s : State} {m : MethodId} {below : List Frame} {meth : Method} {c : Code} {b : Nat} (hx : p.tables.exec = Jvm.exec) (hb : c.code = code) (hr : meth.sig.returnType = ret) (hlocks : meth.locks = false) {pc : Nat} {H : Heap} {ls : Array Slot} (hdg : decode code pc = .ok (.ireturn, 1)) : W p l e room_1 s m #[Value.ref b] below meth c H [] 1077 15749 (lw_Z below #[Value.ref b] s) (F0 m pc ls [.int 1]) := by
  intro T hT X
  obtain ⟨fs, hret, hrun, hended, hW, hframe⟩ := X.leave (v := some (.int 1)) (hlocks := hlocks) (fun h => by rw [hr] at h; cases h)
  have hmeth' : T.vm.method? m = some meth := X.method'
  refine ⟨T.setFrames fs, ?_, .returned (some (.int 1)), hrun, hended, rfl, ⟨_, rfl⟩, hW, hframe⟩
  jvm_step X.here [X.here.top, hx, hb, hdg, hmeth', hr, ret, narrow_b1]
  (try refine ⟨rfl, ?_⟩); (try refine ⟨rfl, ?_⟩)
  first | (intro acts; rw [hret _ acts rfl rfl rfl]) | rw [hret _ _ rfl rfl rfl]
  exact Steps.refl _
/-- what holds at the law's entry: the machine, the code, the tables' words (any of lw_tbl by 'hts w (by decide +kernel)'), the script of L ints xs at the cell b, what the Statement gives of the start (any of its parts by flat_of_before) -/
def lw_At (p : Program) (s : State) (m : MethodId) (meth : Method) (c : Code) (b L : Nat) (xs : Nat → Int32) : Prop :=
  p.tables.exec = Jvm.exec ∧ c.code = code ∧ meth.sig.returnType = ret ∧ c.maxLocals = 7 ∧ s.vm.findClass R_law = some m.cls ∧ (∀ w ∈ lw_tbl, w.before #[Value.ref b] s = true) ∧ va_X b L xs s s.heap ∧ b < s.heap.size ∧ meth.locks = false ∧ (Jvm.Cond.and given_1 narrow_1).before #[Value.ref b] s = true
theorem d_L_law_0 : decode c_L_law 0 = .ok (.new 8, 3) := by decide +kernel
theorem d_L_law_3 : decode c_L_law 3 = .ok (.dup, 1) := by decide +kernel
theorem d_L_law_4 : decode c_L_law 4 = .ok (.invokespecial 58, 3) := by decide +kernel
theorem d_L_law_7 : decode c_L_law 7 = .ok (.astore_n 1, 1) := by decide +kernel
theorem d_L_law_8 : decode c_L_law 8 = .ok (.new 59, 3) := by decide +kernel
theorem d_L_law_11 : decode c_L_law 11 = .ok (.dup, 1) := by decide +kernel
theorem d_L_law_12 : decode c_L_law 12 = .ok (.invokespecial 61, 3) := by decide +kernel
theorem d_L_law_15 : decode c_L_law 15 = .ok (.astore_n 2, 1) := by decide +kernel
theorem d_L_law_16 : decode c_L_law 16 = .ok (.iconst 1, 1) := by decide +kernel
theorem d_L_law_17 : decode c_L_law 17 = .ok (.newarray .long, 2) := by decide +kernel
theorem d_L_law_19 : decode c_L_law 19 = .ok (.astore_n 3, 1) := by decide +kernel
theorem d_L_law_20 : decode c_L_law 20 = .ok (.iconst 0, 1) := by decide +kernel
theorem d_L_law_21 : decode c_L_law 21 = .ok (.istore 4, 2) := by decide +kernel
theorem d_L_law_23 : decode c_L_law 23 = .ok (.iload 4, 2) := by decide +kernel
theorem d_L_law_25 : decode c_L_law 25 = .ok (.aload_n 0, 1) := by decide +kernel
theorem d_L_law_26 : decode c_L_law 26 = .ok (.arraylength, 1) := by decide +kernel
theorem d_L_law_27 : decode c_L_law 27 = .ok (.iconst 3, 1) := by decide +kernel
theorem d_L_law_28 : decode c_L_law 28 = .ok (.isub, 1) := by decide +kernel
theorem d_L_law_29 : decode c_L_law 29 = .ok (.if_icmp .gt 904, 3) := by decide +kernel
theorem d_L_law_32 : decode c_L_law 32 = .ok (.aload_n 0, 1) := by decide +kernel
theorem d_L_law_33 : decode c_L_law 33 = .ok (.iload 4, 2) := by decide +kernel
theorem d_L_law_35 : decode c_L_law 35 = .ok (.iaload, 1) := by decide +kernel
theorem d_L_law_36 : decode c_L_law 36 = .ok (.bipush 15, 2) := by decide +kernel
theorem d_L_law_38 : decode c_L_law 38 = .ok (.iand, 1) := by decide +kernel
theorem d_L_law_39 : decode c_L_law 39 = .ok (.tableswitch 888 0 12 #[65, 133, 201, 269, 360, 416, 484, 540, 596, 664, 708, 776, 832], 65) := by decide +kernel
theorem d_L_law_104 : decode c_L_law 104 = .ok (.aload_n 1, 1) := by decide +kernel
theorem d_L_law_105 : decode c_L_law 105 = .ok (.aload_n 0, 1) := by decide +kernel
theorem d_L_law_106 : decode c_L_law 106 = .ok (.iload 4, 2) := by decide +kernel
theorem d_L_law_108 : decode c_L_law 108 = .ok (.iconst 1, 1) := by decide +kernel
theorem d_L_law_109 : decode c_L_law 109 = .ok (.iadd, 1) := by decide +kernel
theorem d_L_law_110 : decode c_L_law 110 = .ok (.iaload, 1) := by decide +kernel
theorem d_L_law_111 : decode c_L_law 111 = .ok (.aload_n 0, 1) := by decide +kernel
theorem d_L_law_112 : decode c_L_law 112 = .ok (.iload 4, 2) := by decide +kernel
theorem d_L_law_114 : decode c_L_law 114 = .ok (.iconst 2, 1) := by decide +kernel
theorem d_L_law_115 : decode c_L_law 115 = .ok (.iadd, 1) := by decide +kernel
theorem d_L_law_116 : decode c_L_law 116 = .ok (.iaload, 1) := by decide +kernel
theorem d_L_law_117 : decode c_L_law 117 = .ok (.aload_n 3, 1) := by decide +kernel
theorem d_L_law_118 : decode c_L_law 118 = .ok (.invokestatic 62, 3) := by decide +kernel
theorem d_L_law_121 : decode c_L_law 121 = .ok (.istore 5, 2) := by decide +kernel
theorem d_L_law_123 : decode c_L_law 123 = .ok (.aload_n 2, 1) := by decide +kernel
theorem d_L_law_124 : decode c_L_law 124 = .ok (.aload_n 0, 1) := by decide +kernel
theorem d_L_law_125 : decode c_L_law 125 = .ok (.iload 4, 2) := by decide +kernel
theorem d_L_law_127 : decode c_L_law 127 = .ok (.iconst 1, 1) := by decide +kernel
theorem d_L_law_128 : decode c_L_law 128 = .ok (.iadd, 1) := by decide +kernel
theorem d_L_law_129 : decode c_L_law 129 = .ok (.iaload, 1) := by decide +kernel
theorem d_L_law_130 : decode c_L_law 130 = .ok (.aload_n 0, 1) := by decide +kernel
theorem d_L_law_131 : decode c_L_law 131 = .ok (.iload 4, 2) := by decide +kernel
theorem d_L_law_133 : decode c_L_law 133 = .ok (.iconst 2, 1) := by decide +kernel
theorem d_L_law_134 : decode c_L_law 134 = .ok (.iadd, 1) := by decide +kernel
theorem d_L_law_135 : decode c_L_law 135 = .ok (.iaload, 1) := by decide +kernel
theorem d_L_law_136 : decode c_L_law 136 = .ok (.invokevirtual 67, 3) := by decide +kernel
theorem d_L_law_139 : decode c_L_law 139 = .ok (.istore 6, 2) := by decide +kernel
theorem d_L_law_141 : decode c_L_law 141 = .ok (.aload_n 2, 1) := by decide +kernel
theorem d_L_law_142 : decode c_L_law 142 = .ok (.invokevirtual 68, 3) := by decide +kernel
theorem d_L_law_145 : decode c_L_law 145 = .ok (.iload 5, 2) := by decide +kernel
theorem d_L_law_147 : decode c_L_law 147 = .ok (.if_icmp .eq 5, 3) := by decide +kernel
theorem d_L_law_150 : decode c_L_law 150 = .ok (.iconst 0, 1) := by decide +kernel
theorem d_L_law_151 : decode c_L_law 151 = .ok (.ireturn, 1) := by decide +kernel
theorem d_L_law_152 : decode c_L_law 152 = .ok (.iload 5, 2) := by decide +kernel
theorem d_L_law_154 : decode c_L_law 154 = .ok (.ifCond .ne 15, 3) := by decide +kernel
theorem d_L_law_157 : decode c_L_law 157 = .ok (.aload_n 3, 1) := by decide +kernel
theorem d_L_law_158 : decode c_L_law 158 = .ok (.iconst 0, 1) := by decide +kernel
theorem d_L_law_159 : decode c_L_law 159 = .ok (.laload, 1) := by decide +kernel
theorem d_L_law_160 : decode c_L_law 160 = .ok (.iload 6, 2) := by decide +kernel
theorem d_L_law_162 : decode c_L_law 162 = .ok (.i2l, 1) := by decide +kernel
theorem d_L_law_163 : decode c_L_law 163 = .ok (.lcmp, 1) := by decide +kernel
theorem d_L_law_164 : decode c_L_law 164 = .ok (.ifCond .eq 5, 3) := by decide +kernel
theorem d_L_law_167 : decode c_L_law 167 = .ok (.iconst 0, 1) := by decide +kernel
theorem d_L_law_168 : decode c_L_law 168 = .ok (.ireturn, 1) := by decide +kernel
theorem d_L_law_169 : decode c_L_law 169 = .ok (.goto 758, 3) := by decide +kernel
theorem d_L_law_172 : decode c_L_law 172 = .ok (.aload_n 1, 1) := by decide +kernel
theorem d_L_law_173 : decode c_L_law 173 = .ok (.aload_n 0, 1) := by decide +kernel
theorem d_L_law_174 : decode c_L_law 174 = .ok (.iload 4, 2) := by decide +kernel
theorem d_L_law_176 : decode c_L_law 176 = .ok (.iconst 1, 1) := by decide +kernel
theorem d_L_law_177 : decode c_L_law 177 = .ok (.iadd, 1) := by decide +kernel
theorem d_L_law_178 : decode c_L_law 178 = .ok (.iaload, 1) := by decide +kernel
theorem d_L_law_179 : decode c_L_law 179 = .ok (.aload_n 0, 1) := by decide +kernel
theorem d_L_law_180 : decode c_L_law 180 = .ok (.iload 4, 2) := by decide +kernel
theorem d_L_law_182 : decode c_L_law 182 = .ok (.iconst 2, 1) := by decide +kernel
theorem d_L_law_183 : decode c_L_law 183 = .ok (.iadd, 1) := by decide +kernel
theorem d_L_law_184 : decode c_L_law 184 = .ok (.iaload, 1) := by decide +kernel
theorem d_L_law_185 : decode c_L_law 185 = .ok (.aload_n 3, 1) := by decide +kernel
theorem d_L_law_186 : decode c_L_law 186 = .ok (.invokestatic 71, 3) := by decide +kernel
theorem d_L_law_189 : decode c_L_law 189 = .ok (.istore 5, 2) := by decide +kernel
theorem d_L_law_191 : decode c_L_law 191 = .ok (.aload_n 2, 1) := by decide +kernel
theorem d_L_law_192 : decode c_L_law 192 = .ok (.aload_n 0, 1) := by decide +kernel
theorem d_L_law_193 : decode c_L_law 193 = .ok (.iload 4, 2) := by decide +kernel
theorem d_L_law_195 : decode c_L_law 195 = .ok (.iconst 1, 1) := by decide +kernel
theorem d_L_law_196 : decode c_L_law 196 = .ok (.iadd, 1) := by decide +kernel
theorem d_L_law_197 : decode c_L_law 197 = .ok (.iaload, 1) := by decide +kernel
theorem d_L_law_198 : decode c_L_law 198 = .ok (.aload_n 0, 1) := by decide +kernel
theorem d_L_law_199 : decode c_L_law 199 = .ok (.iload 4, 2) := by decide +kernel
theorem d_L_law_201 : decode c_L_law 201 = .ok (.iconst 2, 1) := by decide +kernel
theorem d_L_law_202 : decode c_L_law 202 = .ok (.iadd, 1) := by decide +kernel
theorem d_L_law_203 : decode c_L_law 203 = .ok (.iaload, 1) := by decide +kernel
theorem d_L_law_204 : decode c_L_law 204 = .ok (.invokevirtual 73, 3) := by decide +kernel
theorem d_L_law_207 : decode c_L_law 207 = .ok (.istore 6, 2) := by decide +kernel
theorem d_L_law_209 : decode c_L_law 209 = .ok (.aload_n 2, 1) := by decide +kernel
theorem d_L_law_210 : decode c_L_law 210 = .ok (.invokevirtual 68, 3) := by decide +kernel
theorem d_L_law_213 : decode c_L_law 213 = .ok (.iload 5, 2) := by decide +kernel
theorem d_L_law_215 : decode c_L_law 215 = .ok (.if_icmp .eq 5, 3) := by decide +kernel
theorem d_L_law_218 : decode c_L_law 218 = .ok (.iconst 0, 1) := by decide +kernel
theorem d_L_law_219 : decode c_L_law 219 = .ok (.ireturn, 1) := by decide +kernel
theorem d_L_law_220 : decode c_L_law 220 = .ok (.iload 5, 2) := by decide +kernel
theorem d_L_law_222 : decode c_L_law 222 = .ok (.ifCond .ne 15, 3) := by decide +kernel
theorem d_L_law_225 : decode c_L_law 225 = .ok (.aload_n 3, 1) := by decide +kernel
theorem d_L_law_226 : decode c_L_law 226 = .ok (.iconst 0, 1) := by decide +kernel
theorem d_L_law_227 : decode c_L_law 227 = .ok (.laload, 1) := by decide +kernel
theorem d_L_law_228 : decode c_L_law 228 = .ok (.iload 6, 2) := by decide +kernel
theorem d_L_law_230 : decode c_L_law 230 = .ok (.i2l, 1) := by decide +kernel
theorem d_L_law_231 : decode c_L_law 231 = .ok (.lcmp, 1) := by decide +kernel
theorem d_L_law_232 : decode c_L_law 232 = .ok (.ifCond .eq 5, 3) := by decide +kernel
theorem d_L_law_235 : decode c_L_law 235 = .ok (.iconst 0, 1) := by decide +kernel
theorem d_L_law_236 : decode c_L_law 236 = .ok (.ireturn, 1) := by decide +kernel
theorem d_L_law_237 : decode c_L_law 237 = .ok (.goto 690, 3) := by decide +kernel
theorem d_L_law_240 : decode c_L_law 240 = .ok (.aload_n 1, 1) := by decide +kernel
theorem d_L_law_241 : decode c_L_law 241 = .ok (.aload_n 0, 1) := by decide +kernel
theorem d_L_law_242 : decode c_L_law 242 = .ok (.iload 4, 2) := by decide +kernel
theorem d_L_law_244 : decode c_L_law 244 = .ok (.iconst 1, 1) := by decide +kernel
theorem d_L_law_245 : decode c_L_law 245 = .ok (.iadd, 1) := by decide +kernel
theorem d_L_law_246 : decode c_L_law 246 = .ok (.iaload, 1) := by decide +kernel
theorem d_L_law_247 : decode c_L_law 247 = .ok (.aload_n 0, 1) := by decide +kernel
theorem d_L_law_248 : decode c_L_law 248 = .ok (.iload 4, 2) := by decide +kernel
theorem d_L_law_250 : decode c_L_law 250 = .ok (.iconst 2, 1) := by decide +kernel
theorem d_L_law_251 : decode c_L_law 251 = .ok (.iadd, 1) := by decide +kernel
theorem d_L_law_252 : decode c_L_law 252 = .ok (.iaload, 1) := by decide +kernel
theorem d_L_law_253 : decode c_L_law 253 = .ok (.aload_n 3, 1) := by decide +kernel
theorem d_L_law_254 : decode c_L_law 254 = .ok (.invokestatic 74, 3) := by decide +kernel
theorem d_L_law_257 : decode c_L_law 257 = .ok (.istore 5, 2) := by decide +kernel
theorem d_L_law_259 : decode c_L_law 259 = .ok (.aload_n 2, 1) := by decide +kernel
theorem d_L_law_260 : decode c_L_law 260 = .ok (.aload_n 0, 1) := by decide +kernel
theorem d_L_law_261 : decode c_L_law 261 = .ok (.iload 4, 2) := by decide +kernel
theorem d_L_law_263 : decode c_L_law 263 = .ok (.iconst 1, 1) := by decide +kernel
theorem d_L_law_264 : decode c_L_law 264 = .ok (.iadd, 1) := by decide +kernel
theorem d_L_law_265 : decode c_L_law 265 = .ok (.iaload, 1) := by decide +kernel
theorem d_L_law_266 : decode c_L_law 266 = .ok (.aload_n 0, 1) := by decide +kernel
theorem d_L_law_267 : decode c_L_law 267 = .ok (.iload 4, 2) := by decide +kernel
theorem d_L_law_269 : decode c_L_law 269 = .ok (.iconst 2, 1) := by decide +kernel
theorem d_L_law_270 : decode c_L_law 270 = .ok (.iadd, 1) := by decide +kernel
theorem d_L_law_271 : decode c_L_law 271 = .ok (.iaload, 1) := by decide +kernel
theorem d_L_law_272 : decode c_L_law 272 = .ok (.invokevirtual 76, 3) := by decide +kernel
theorem d_L_law_275 : decode c_L_law 275 = .ok (.istore 6, 2) := by decide +kernel
theorem d_L_law_277 : decode c_L_law 277 = .ok (.aload_n 2, 1) := by decide +kernel
theorem d_L_law_278 : decode c_L_law 278 = .ok (.invokevirtual 68, 3) := by decide +kernel
theorem d_L_law_281 : decode c_L_law 281 = .ok (.iload 5, 2) := by decide +kernel
theorem d_L_law_283 : decode c_L_law 283 = .ok (.if_icmp .eq 5, 3) := by decide +kernel
theorem d_L_law_286 : decode c_L_law 286 = .ok (.iconst 0, 1) := by decide +kernel
theorem d_L_law_287 : decode c_L_law 287 = .ok (.ireturn, 1) := by decide +kernel
theorem d_L_law_288 : decode c_L_law 288 = .ok (.iload 5, 2) := by decide +kernel
theorem d_L_law_290 : decode c_L_law 290 = .ok (.ifCond .ne 15, 3) := by decide +kernel
theorem d_L_law_293 : decode c_L_law 293 = .ok (.aload_n 3, 1) := by decide +kernel
theorem d_L_law_294 : decode c_L_law 294 = .ok (.iconst 0, 1) := by decide +kernel
theorem d_L_law_295 : decode c_L_law 295 = .ok (.laload, 1) := by decide +kernel
theorem d_L_law_296 : decode c_L_law 296 = .ok (.iload 6, 2) := by decide +kernel
theorem d_L_law_298 : decode c_L_law 298 = .ok (.i2l, 1) := by decide +kernel
theorem d_L_law_299 : decode c_L_law 299 = .ok (.lcmp, 1) := by decide +kernel
theorem d_L_law_300 : decode c_L_law 300 = .ok (.ifCond .eq 5, 3) := by decide +kernel
theorem d_L_law_303 : decode c_L_law 303 = .ok (.iconst 0, 1) := by decide +kernel
theorem d_L_law_304 : decode c_L_law 304 = .ok (.ireturn, 1) := by decide +kernel
theorem d_L_law_305 : decode c_L_law 305 = .ok (.goto 622, 3) := by decide +kernel
theorem d_L_law_308 : decode c_L_law 308 = .ok (.aload_n 1, 1) := by decide +kernel
theorem d_L_law_309 : decode c_L_law 309 = .ok (.aload_n 0, 1) := by decide +kernel
theorem d_L_law_310 : decode c_L_law 310 = .ok (.iload 4, 2) := by decide +kernel
theorem d_L_law_312 : decode c_L_law 312 = .ok (.iconst 1, 1) := by decide +kernel
theorem d_L_law_313 : decode c_L_law 313 = .ok (.iadd, 1) := by decide +kernel
theorem d_L_law_314 : decode c_L_law 314 = .ok (.iaload, 1) := by decide +kernel
theorem d_L_law_315 : decode c_L_law 315 = .ok (.aload_n 0, 1) := by decide +kernel
theorem d_L_law_316 : decode c_L_law 316 = .ok (.iload 4, 2) := by decide +kernel
theorem d_L_law_318 : decode c_L_law 318 = .ok (.iconst 2, 1) := by decide +kernel
theorem d_L_law_319 : decode c_L_law 319 = .ok (.iadd, 1) := by decide +kernel
theorem d_L_law_320 : decode c_L_law 320 = .ok (.iaload, 1) := by decide +kernel
theorem d_L_law_321 : decode c_L_law 321 = .ok (.ifCond .eq 7, 3) := by decide +kernel
theorem d_L_law_324 : decode c_L_law 324 = .ok (.iconst 1, 1) := by decide +kernel
theorem d_L_law_325 : decode c_L_law 325 = .ok (.goto 4, 3) := by decide +kernel
theorem d_L_law_328 : decode c_L_law 328 = .ok (.iconst 0, 1) := by decide +kernel
theorem d_L_law_329 : decode c_L_law 329 = .ok (.aload_n 3, 1) := by decide +kernel
theorem d_L_law_330 : decode c_L_law 330 = .ok (.invokestatic 77, 3) := by decide +kernel
theorem d_L_law_333 : decode c_L_law 333 = .ok (.istore 5, 2) := by decide +kernel
theorem d_L_law_335 : decode c_L_law 335 = .ok (.aload_n 2, 1) := by decide +kernel
theorem d_L_law_336 : decode c_L_law 336 = .ok (.aload_n 0, 1) := by decide +kernel
theorem d_L_law_337 : decode c_L_law 337 = .ok (.iload 4, 2) := by decide +kernel
theorem d_L_law_339 : decode c_L_law 339 = .ok (.iconst 1, 1) := by decide +kernel
theorem d_L_law_340 : decode c_L_law 340 = .ok (.iadd, 1) := by decide +kernel
theorem d_L_law_341 : decode c_L_law 341 = .ok (.iaload, 1) := by decide +kernel
theorem d_L_law_342 : decode c_L_law 342 = .ok (.aload_n 0, 1) := by decide +kernel
theorem d_L_law_343 : decode c_L_law 343 = .ok (.iload 4, 2) := by decide +kernel
theorem d_L_law_345 : decode c_L_law 345 = .ok (.iconst 2, 1) := by decide +kernel
theorem d_L_law_346 : decode c_L_law 346 = .ok (.iadd, 1) := by decide +kernel
theorem d_L_law_347 : decode c_L_law 347 = .ok (.iaload, 1) := by decide +kernel
theorem d_L_law_348 : decode c_L_law 348 = .ok (.ifCond .eq 7, 3) := by decide +kernel
theorem d_L_law_351 : decode c_L_law 351 = .ok (.iconst 1, 1) := by decide +kernel
theorem d_L_law_352 : decode c_L_law 352 = .ok (.goto 4, 3) := by decide +kernel
theorem d_L_law_355 : decode c_L_law 355 = .ok (.iconst 0, 1) := by decide +kernel
theorem d_L_law_356 : decode c_L_law 356 = .ok (.invokevirtual 80, 3) := by decide +kernel
theorem d_L_law_359 : decode c_L_law 359 = .ok (.istore 6, 2) := by decide +kernel
theorem d_L_law_361 : decode c_L_law 361 = .ok (.aload_n 2, 1) := by decide +kernel
theorem d_L_law_362 : decode c_L_law 362 = .ok (.invokevirtual 68, 3) := by decide +kernel
theorem d_L_law_365 : decode c_L_law 365 = .ok (.iload 5, 2) := by decide +kernel
theorem d_L_law_367 : decode c_L_law 367 = .ok (.if_icmp .eq 5, 3) := by decide +kernel
theorem d_L_law_370 : decode c_L_law 370 = .ok (.iconst 0, 1) := by decide +kernel
theorem d_L_law_371 : decode c_L_law 371 = .ok (.ireturn, 1) := by decide +kernel
theorem d_L_law_372 : decode c_L_law 372 = .ok (.iload 5, 2) := by decide +kernel
theorem d_L_law_374 : decode c_L_law 374 = .ok (.ifCond .ne 22, 3) := by decide +kernel
theorem d_L_law_377 : decode c_L_law 377 = .ok (.aload_n 3, 1) := by decide +kernel
theorem d_L_law_378 : decode c_L_law 378 = .ok (.iconst 0, 1) := by decide +kernel
theorem d_L_law_379 : decode c_L_law 379 = .ok (.laload, 1) := by decide +kernel
theorem d_L_law_380 : decode c_L_law 380 = .ok (.iload 6, 2) := by decide +kernel
theorem d_L_law_382 : decode c_L_law 382 = .ok (.ifCond .eq 7, 3) := by decide +kernel
theorem d_L_law_385 : decode c_L_law 385 = .ok (.lconst 1, 1) := by decide +kernel
theorem d_L_law_386 : decode c_L_law 386 = .ok (.goto 4, 3) := by decide +kernel
theorem d_L_law_389 : decode c_L_law 389 = .ok (.lconst 0, 1) := by decide +kernel
theorem d_L_law_390 : decode c_L_law 390 = .ok (.lcmp, 1) := by decide +kernel
theorem d_L_law_391 : decode c_L_law 391 = .ok (.ifCond .eq 5, 3) := by decide +kernel
theorem d_L_law_394 : decode c_L_law 394 = .ok (.iconst 0, 1) := by decide +kernel
theorem d_L_law_395 : decode c_L_law 395 = .ok (.ireturn, 1) := by decide +kernel
theorem d_L_law_396 : decode c_L_law 396 = .ok (.goto 531, 3) := by decide +kernel
theorem d_L_law_399 : decode c_L_law 399 = .ok (.aload_n 1, 1) := by decide +kernel
theorem d_L_law_400 : decode c_L_law 400 = .ok (.aload_n 0, 1) := by decide +kernel
theorem d_L_law_401 : decode c_L_law 401 = .ok (.iload 4, 2) := by decide +kernel
theorem d_L_law_403 : decode c_L_law 403 = .ok (.iconst 1, 1) := by decide +kernel
theorem d_L_law_404 : decode c_L_law 404 = .ok (.iadd, 1) := by decide +kernel
theorem d_L_law_405 : decode c_L_law 405 = .ok (.iaload, 1) := by decide +kernel
theorem d_L_law_406 : decode c_L_law 406 = .ok (.aload_n 3, 1) := by decide +kernel
theorem d_L_law_407 : decode c_L_law 407 = .ok (.invokestatic 81, 3) := by decide +kernel
theorem d_L_law_410 : decode c_L_law 410 = .ok (.istore 5, 2) := by decide +kernel
theorem d_L_law_412 : decode c_L_law 412 = .ok (.aload_n 2, 1) := by decide +kernel
theorem d_L_law_413 : decode c_L_law 413 = .ok (.aload_n 0, 1) := by decide +kernel
theorem d_L_law_414 : decode c_L_law 414 = .ok (.iload 4, 2) := by decide +kernel
theorem d_L_law_416 : decode c_L_law 416 = .ok (.iconst 1, 1) := by decide +kernel
theorem d_L_law_417 : decode c_L_law 417 = .ok (.iadd, 1) := by decide +kernel
theorem d_L_law_418 : decode c_L_law 418 = .ok (.iaload, 1) := by decide +kernel
theorem d_L_law_419 : decode c_L_law 419 = .ok (.invokevirtual 84, 3) := by decide +kernel
theorem d_L_law_422 : decode c_L_law 422 = .ok (.istore 6, 2) := by decide +kernel
theorem d_L_law_424 : decode c_L_law 424 = .ok (.aload_n 2, 1) := by decide +kernel
theorem d_L_law_425 : decode c_L_law 425 = .ok (.invokevirtual 68, 3) := by decide +kernel
theorem d_L_law_428 : decode c_L_law 428 = .ok (.iload 5, 2) := by decide +kernel
theorem d_L_law_430 : decode c_L_law 430 = .ok (.if_icmp .eq 5, 3) := by decide +kernel
theorem d_L_law_433 : decode c_L_law 433 = .ok (.iconst 0, 1) := by decide +kernel
theorem d_L_law_434 : decode c_L_law 434 = .ok (.ireturn, 1) := by decide +kernel
theorem d_L_law_435 : decode c_L_law 435 = .ok (.iload 5, 2) := by decide +kernel
theorem d_L_law_437 : decode c_L_law 437 = .ok (.ifCond .ne 15, 3) := by decide +kernel
theorem d_L_law_440 : decode c_L_law 440 = .ok (.aload_n 3, 1) := by decide +kernel
theorem d_L_law_441 : decode c_L_law 441 = .ok (.iconst 0, 1) := by decide +kernel
theorem d_L_law_442 : decode c_L_law 442 = .ok (.laload, 1) := by decide +kernel
theorem d_L_law_443 : decode c_L_law 443 = .ok (.iload 6, 2) := by decide +kernel
theorem d_L_law_445 : decode c_L_law 445 = .ok (.i2l, 1) := by decide +kernel
theorem d_L_law_446 : decode c_L_law 446 = .ok (.lcmp, 1) := by decide +kernel
theorem d_L_law_447 : decode c_L_law 447 = .ok (.ifCond .eq 5, 3) := by decide +kernel
theorem d_L_law_450 : decode c_L_law 450 = .ok (.iconst 0, 1) := by decide +kernel
theorem d_L_law_451 : decode c_L_law 451 = .ok (.ireturn, 1) := by decide +kernel
theorem d_L_law_452 : decode c_L_law 452 = .ok (.goto 475, 3) := by decide +kernel
theorem d_L_law_455 : decode c_L_law 455 = .ok (.aload_n 1, 1) := by decide +kernel
theorem d_L_law_456 : decode c_L_law 456 = .ok (.aload_n 0, 1) := by decide +kernel
theorem d_L_law_457 : decode c_L_law 457 = .ok (.iload 4, 2) := by decide +kernel
theorem d_L_law_459 : decode c_L_law 459 = .ok (.iconst 1, 1) := by decide +kernel
theorem d_L_law_460 : decode c_L_law 460 = .ok (.iadd, 1) := by decide +kernel
theorem d_L_law_461 : decode c_L_law 461 = .ok (.iaload, 1) := by decide +kernel
theorem d_L_law_462 : decode c_L_law 462 = .ok (.aload_n 0, 1) := by decide +kernel
theorem d_L_law_463 : decode c_L_law 463 = .ok (.iload 4, 2) := by decide +kernel
theorem d_L_law_465 : decode c_L_law 465 = .ok (.iconst 2, 1) := by decide +kernel
theorem d_L_law_466 : decode c_L_law 466 = .ok (.iadd, 1) := by decide +kernel
theorem d_L_law_467 : decode c_L_law 467 = .ok (.iaload, 1) := by decide +kernel
theorem d_L_law_468 : decode c_L_law 468 = .ok (.aload_n 3, 1) := by decide +kernel
theorem d_L_law_469 : decode c_L_law 469 = .ok (.invokestatic 85, 3) := by decide +kernel
theorem d_L_law_472 : decode c_L_law 472 = .ok (.istore 5, 2) := by decide +kernel
theorem d_L_law_474 : decode c_L_law 474 = .ok (.aload_n 2, 1) := by decide +kernel
theorem d_L_law_475 : decode c_L_law 475 = .ok (.aload_n 0, 1) := by decide +kernel
theorem d_L_law_476 : decode c_L_law 476 = .ok (.iload 4, 2) := by decide +kernel
theorem d_L_law_478 : decode c_L_law 478 = .ok (.iconst 1, 1) := by decide +kernel
theorem d_L_law_479 : decode c_L_law 479 = .ok (.iadd, 1) := by decide +kernel
theorem d_L_law_480 : decode c_L_law 480 = .ok (.iaload, 1) := by decide +kernel
theorem d_L_law_481 : decode c_L_law 481 = .ok (.aload_n 0, 1) := by decide +kernel
theorem d_L_law_482 : decode c_L_law 482 = .ok (.iload 4, 2) := by decide +kernel
theorem d_L_law_484 : decode c_L_law 484 = .ok (.iconst 2, 1) := by decide +kernel
theorem d_L_law_485 : decode c_L_law 485 = .ok (.iadd, 1) := by decide +kernel
theorem d_L_law_486 : decode c_L_law 486 = .ok (.iaload, 1) := by decide +kernel
theorem d_L_law_487 : decode c_L_law 487 = .ok (.invokevirtual 87, 3) := by decide +kernel
theorem d_L_law_490 : decode c_L_law 490 = .ok (.istore 6, 2) := by decide +kernel
theorem d_L_law_492 : decode c_L_law 492 = .ok (.aload_n 2, 1) := by decide +kernel
theorem d_L_law_493 : decode c_L_law 493 = .ok (.invokevirtual 68, 3) := by decide +kernel
theorem d_L_law_496 : decode c_L_law 496 = .ok (.iload 5, 2) := by decide +kernel
theorem d_L_law_498 : decode c_L_law 498 = .ok (.if_icmp .eq 5, 3) := by decide +kernel
theorem d_L_law_501 : decode c_L_law 501 = .ok (.iconst 0, 1) := by decide +kernel
theorem d_L_law_502 : decode c_L_law 502 = .ok (.ireturn, 1) := by decide +kernel
theorem d_L_law_503 : decode c_L_law 503 = .ok (.iload 5, 2) := by decide +kernel
theorem d_L_law_505 : decode c_L_law 505 = .ok (.ifCond .ne 15, 3) := by decide +kernel
theorem d_L_law_508 : decode c_L_law 508 = .ok (.aload_n 3, 1) := by decide +kernel
theorem d_L_law_509 : decode c_L_law 509 = .ok (.iconst 0, 1) := by decide +kernel
theorem d_L_law_510 : decode c_L_law 510 = .ok (.laload, 1) := by decide +kernel
theorem d_L_law_511 : decode c_L_law 511 = .ok (.iload 6, 2) := by decide +kernel
theorem d_L_law_513 : decode c_L_law 513 = .ok (.i2l, 1) := by decide +kernel
theorem d_L_law_514 : decode c_L_law 514 = .ok (.lcmp, 1) := by decide +kernel
theorem d_L_law_515 : decode c_L_law 515 = .ok (.ifCond .eq 5, 3) := by decide +kernel
theorem d_L_law_518 : decode c_L_law 518 = .ok (.iconst 0, 1) := by decide +kernel
theorem d_L_law_519 : decode c_L_law 519 = .ok (.ireturn, 1) := by decide +kernel
theorem d_L_law_520 : decode c_L_law 520 = .ok (.goto 407, 3) := by decide +kernel
theorem d_L_law_523 : decode c_L_law 523 = .ok (.aload_n 1, 1) := by decide +kernel
theorem d_L_law_524 : decode c_L_law 524 = .ok (.aload_n 0, 1) := by decide +kernel
theorem d_L_law_525 : decode c_L_law 525 = .ok (.iload 4, 2) := by decide +kernel
theorem d_L_law_527 : decode c_L_law 527 = .ok (.iconst 1, 1) := by decide +kernel
theorem d_L_law_528 : decode c_L_law 528 = .ok (.iadd, 1) := by decide +kernel
theorem d_L_law_529 : decode c_L_law 529 = .ok (.iaload, 1) := by decide +kernel
theorem d_L_law_530 : decode c_L_law 530 = .ok (.aload_n 3, 1) := by decide +kernel
theorem d_L_law_531 : decode c_L_law 531 = .ok (.invokestatic 88, 3) := by decide +kernel
theorem d_L_law_534 : decode c_L_law 534 = .ok (.istore 5, 2) := by decide +kernel
theorem d_L_law_536 : decode c_L_law 536 = .ok (.aload_n 2, 1) := by decide +kernel
theorem d_L_law_537 : decode c_L_law 537 = .ok (.aload_n 0, 1) := by decide +kernel
theorem d_L_law_538 : decode c_L_law 538 = .ok (.iload 4, 2) := by decide +kernel
theorem d_L_law_540 : decode c_L_law 540 = .ok (.iconst 1, 1) := by decide +kernel
theorem d_L_law_541 : decode c_L_law 541 = .ok (.iadd, 1) := by decide +kernel
theorem d_L_law_542 : decode c_L_law 542 = .ok (.iaload, 1) := by decide +kernel
theorem d_L_law_543 : decode c_L_law 543 = .ok (.invokevirtual 90, 3) := by decide +kernel
theorem d_L_law_546 : decode c_L_law 546 = .ok (.istore 6, 2) := by decide +kernel
theorem d_L_law_548 : decode c_L_law 548 = .ok (.aload_n 2, 1) := by decide +kernel
theorem d_L_law_549 : decode c_L_law 549 = .ok (.invokevirtual 68, 3) := by decide +kernel
theorem d_L_law_552 : decode c_L_law 552 = .ok (.iload 5, 2) := by decide +kernel
theorem d_L_law_554 : decode c_L_law 554 = .ok (.if_icmp .eq 5, 3) := by decide +kernel
theorem d_L_law_557 : decode c_L_law 557 = .ok (.iconst 0, 1) := by decide +kernel
theorem d_L_law_558 : decode c_L_law 558 = .ok (.ireturn, 1) := by decide +kernel
theorem d_L_law_559 : decode c_L_law 559 = .ok (.iload 5, 2) := by decide +kernel
theorem d_L_law_561 : decode c_L_law 561 = .ok (.ifCond .ne 15, 3) := by decide +kernel
theorem d_L_law_564 : decode c_L_law 564 = .ok (.aload_n 3, 1) := by decide +kernel
theorem d_L_law_565 : decode c_L_law 565 = .ok (.iconst 0, 1) := by decide +kernel
theorem d_L_law_566 : decode c_L_law 566 = .ok (.laload, 1) := by decide +kernel
theorem d_L_law_567 : decode c_L_law 567 = .ok (.iload 6, 2) := by decide +kernel
theorem d_L_law_569 : decode c_L_law 569 = .ok (.i2l, 1) := by decide +kernel
theorem d_L_law_570 : decode c_L_law 570 = .ok (.lcmp, 1) := by decide +kernel
theorem d_L_law_571 : decode c_L_law 571 = .ok (.ifCond .eq 5, 3) := by decide +kernel
theorem d_L_law_574 : decode c_L_law 574 = .ok (.iconst 0, 1) := by decide +kernel
theorem d_L_law_575 : decode c_L_law 575 = .ok (.ireturn, 1) := by decide +kernel
theorem d_L_law_576 : decode c_L_law 576 = .ok (.goto 351, 3) := by decide +kernel
theorem d_L_law_579 : decode c_L_law 579 = .ok (.aload_n 1, 1) := by decide +kernel
theorem d_L_law_580 : decode c_L_law 580 = .ok (.aload_n 0, 1) := by decide +kernel
theorem d_L_law_581 : decode c_L_law 581 = .ok (.iload 4, 2) := by decide +kernel
theorem d_L_law_583 : decode c_L_law 583 = .ok (.iconst 1, 1) := by decide +kernel
theorem d_L_law_584 : decode c_L_law 584 = .ok (.iadd, 1) := by decide +kernel
theorem d_L_law_585 : decode c_L_law 585 = .ok (.iaload, 1) := by decide +kernel
theorem d_L_law_586 : decode c_L_law 586 = .ok (.aload_n 3, 1) := by decide +kernel
theorem d_L_law_587 : decode c_L_law 587 = .ok (.invokestatic 91, 3) := by decide +kernel
theorem d_L_law_590 : decode c_L_law 590 = .ok (.istore 5, 2) := by decide +kernel
theorem d_L_law_592 : decode c_L_law 592 = .ok (.aload_n 2, 1) := by decide +kernel
theorem d_L_law_593 : decode c_L_law 593 = .ok (.aload_n 0, 1) := by decide +kernel
theorem d_L_law_594 : decode c_L_law 594 = .ok (.iload 4, 2) := by decide +kernel
theorem d_L_law_596 : decode c_L_law 596 = .ok (.iconst 1, 1) := by decide +kernel
theorem d_L_law_597 : decode c_L_law 597 = .ok (.iadd, 1) := by decide +kernel
theorem d_L_law_598 : decode c_L_law 598 = .ok (.iaload, 1) := by decide +kernel
theorem d_L_law_599 : decode c_L_law 599 = .ok (.invokevirtual 93, 3) := by decide +kernel
theorem d_L_law_602 : decode c_L_law 602 = .ok (.istore 6, 2) := by decide +kernel
theorem d_L_law_604 : decode c_L_law 604 = .ok (.aload_n 2, 1) := by decide +kernel
theorem d_L_law_605 : decode c_L_law 605 = .ok (.invokevirtual 68, 3) := by decide +kernel
theorem d_L_law_608 : decode c_L_law 608 = .ok (.iload 5, 2) := by decide +kernel
theorem d_L_law_610 : decode c_L_law 610 = .ok (.if_icmp .eq 5, 3) := by decide +kernel
theorem d_L_law_613 : decode c_L_law 613 = .ok (.iconst 0, 1) := by decide +kernel
theorem d_L_law_614 : decode c_L_law 614 = .ok (.ireturn, 1) := by decide +kernel
theorem d_L_law_615 : decode c_L_law 615 = .ok (.iload 5, 2) := by decide +kernel
theorem d_L_law_617 : decode c_L_law 617 = .ok (.ifCond .ne 15, 3) := by decide +kernel
theorem d_L_law_620 : decode c_L_law 620 = .ok (.aload_n 3, 1) := by decide +kernel
theorem d_L_law_621 : decode c_L_law 621 = .ok (.iconst 0, 1) := by decide +kernel
theorem d_L_law_622 : decode c_L_law 622 = .ok (.laload, 1) := by decide +kernel
theorem d_L_law_623 : decode c_L_law 623 = .ok (.iload 6, 2) := by decide +kernel
theorem d_L_law_625 : decode c_L_law 625 = .ok (.i2l, 1) := by decide +kernel
theorem d_L_law_626 : decode c_L_law 626 = .ok (.lcmp, 1) := by decide +kernel
theorem d_L_law_627 : decode c_L_law 627 = .ok (.ifCond .eq 5, 3) := by decide +kernel
theorem d_L_law_630 : decode c_L_law 630 = .ok (.iconst 0, 1) := by decide +kernel
theorem d_L_law_631 : decode c_L_law 631 = .ok (.ireturn, 1) := by decide +kernel
theorem d_L_law_632 : decode c_L_law 632 = .ok (.goto 295, 3) := by decide +kernel
theorem d_L_law_635 : decode c_L_law 635 = .ok (.aload_n 1, 1) := by decide +kernel
theorem d_L_law_636 : decode c_L_law 636 = .ok (.aload_n 0, 1) := by decide +kernel
theorem d_L_law_637 : decode c_L_law 637 = .ok (.iload 4, 2) := by decide +kernel
theorem d_L_law_639 : decode c_L_law 639 = .ok (.iconst 1, 1) := by decide +kernel
theorem d_L_law_640 : decode c_L_law 640 = .ok (.iadd, 1) := by decide +kernel
theorem d_L_law_641 : decode c_L_law 641 = .ok (.iaload, 1) := by decide +kernel
theorem d_L_law_642 : decode c_L_law 642 = .ok (.aload_n 0, 1) := by decide +kernel
theorem d_L_law_643 : decode c_L_law 643 = .ok (.iload 4, 2) := by decide +kernel
theorem d_L_law_645 : decode c_L_law 645 = .ok (.iconst 2, 1) := by decide +kernel
theorem d_L_law_646 : decode c_L_law 646 = .ok (.iadd, 1) := by decide +kernel
theorem d_L_law_647 : decode c_L_law 647 = .ok (.iaload, 1) := by decide +kernel
theorem d_L_law_648 : decode c_L_law 648 = .ok (.aload_n 3, 1) := by decide +kernel
theorem d_L_law_649 : decode c_L_law 649 = .ok (.invokestatic 94, 3) := by decide +kernel
theorem d_L_law_652 : decode c_L_law 652 = .ok (.istore 5, 2) := by decide +kernel
theorem d_L_law_654 : decode c_L_law 654 = .ok (.aload_n 2, 1) := by decide +kernel
theorem d_L_law_655 : decode c_L_law 655 = .ok (.aload_n 0, 1) := by decide +kernel
theorem d_L_law_656 : decode c_L_law 656 = .ok (.iload 4, 2) := by decide +kernel
theorem d_L_law_658 : decode c_L_law 658 = .ok (.iconst 1, 1) := by decide +kernel
theorem d_L_law_659 : decode c_L_law 659 = .ok (.iadd, 1) := by decide +kernel
theorem d_L_law_660 : decode c_L_law 660 = .ok (.iaload, 1) := by decide +kernel
theorem d_L_law_661 : decode c_L_law 661 = .ok (.aload_n 0, 1) := by decide +kernel
theorem d_L_law_662 : decode c_L_law 662 = .ok (.iload 4, 2) := by decide +kernel
theorem d_L_law_664 : decode c_L_law 664 = .ok (.iconst 2, 1) := by decide +kernel
theorem d_L_law_665 : decode c_L_law 665 = .ok (.iadd, 1) := by decide +kernel
theorem d_L_law_666 : decode c_L_law 666 = .ok (.iaload, 1) := by decide +kernel
theorem d_L_law_667 : decode c_L_law 667 = .ok (.invokevirtual 96, 3) := by decide +kernel
theorem d_L_law_670 : decode c_L_law 670 = .ok (.istore 6, 2) := by decide +kernel
theorem d_L_law_672 : decode c_L_law 672 = .ok (.aload_n 2, 1) := by decide +kernel
theorem d_L_law_673 : decode c_L_law 673 = .ok (.invokevirtual 68, 3) := by decide +kernel
theorem d_L_law_676 : decode c_L_law 676 = .ok (.iload 5, 2) := by decide +kernel
theorem d_L_law_678 : decode c_L_law 678 = .ok (.if_icmp .eq 5, 3) := by decide +kernel
theorem d_L_law_681 : decode c_L_law 681 = .ok (.iconst 0, 1) := by decide +kernel
theorem d_L_law_682 : decode c_L_law 682 = .ok (.ireturn, 1) := by decide +kernel
theorem d_L_law_683 : decode c_L_law 683 = .ok (.iload 5, 2) := by decide +kernel
theorem d_L_law_685 : decode c_L_law 685 = .ok (.ifCond .ne 15, 3) := by decide +kernel
theorem d_L_law_688 : decode c_L_law 688 = .ok (.aload_n 3, 1) := by decide +kernel
theorem d_L_law_689 : decode c_L_law 689 = .ok (.iconst 0, 1) := by decide +kernel
theorem d_L_law_690 : decode c_L_law 690 = .ok (.laload, 1) := by decide +kernel
theorem d_L_law_691 : decode c_L_law 691 = .ok (.iload 6, 2) := by decide +kernel
theorem d_L_law_693 : decode c_L_law 693 = .ok (.i2l, 1) := by decide +kernel
theorem d_L_law_694 : decode c_L_law 694 = .ok (.lcmp, 1) := by decide +kernel
theorem d_L_law_695 : decode c_L_law 695 = .ok (.ifCond .eq 5, 3) := by decide +kernel
theorem d_L_law_698 : decode c_L_law 698 = .ok (.iconst 0, 1) := by decide +kernel
theorem d_L_law_699 : decode c_L_law 699 = .ok (.ireturn, 1) := by decide +kernel
theorem d_L_law_700 : decode c_L_law 700 = .ok (.goto 227, 3) := by decide +kernel
theorem d_L_law_703 : decode c_L_law 703 = .ok (.aload_n 1, 1) := by decide +kernel
theorem d_L_law_704 : decode c_L_law 704 = .ok (.aload_n 3, 1) := by decide +kernel
theorem d_L_law_705 : decode c_L_law 705 = .ok (.invokestatic 97, 3) := by decide +kernel
theorem d_L_law_708 : decode c_L_law 708 = .ok (.istore 5, 2) := by decide +kernel
theorem d_L_law_710 : decode c_L_law 710 = .ok (.aload_n 2, 1) := by decide +kernel
theorem d_L_law_711 : decode c_L_law 711 = .ok (.invokevirtual 100, 3) := by decide +kernel
theorem d_L_law_714 : decode c_L_law 714 = .ok (.istore 6, 2) := by decide +kernel
theorem d_L_law_716 : decode c_L_law 716 = .ok (.aload_n 2, 1) := by decide +kernel
theorem d_L_law_717 : decode c_L_law 717 = .ok (.invokevirtual 68, 3) := by decide +kernel
theorem d_L_law_720 : decode c_L_law 720 = .ok (.iload 5, 2) := by decide +kernel
theorem d_L_law_722 : decode c_L_law 722 = .ok (.if_icmp .eq 5, 3) := by decide +kernel
theorem d_L_law_725 : decode c_L_law 725 = .ok (.iconst 0, 1) := by decide +kernel
theorem d_L_law_726 : decode c_L_law 726 = .ok (.ireturn, 1) := by decide +kernel
theorem d_L_law_727 : decode c_L_law 727 = .ok (.iload 5, 2) := by decide +kernel
theorem d_L_law_729 : decode c_L_law 729 = .ok (.ifCond .ne 15, 3) := by decide +kernel
theorem d_L_law_732 : decode c_L_law 732 = .ok (.aload_n 3, 1) := by decide +kernel
theorem d_L_law_733 : decode c_L_law 733 = .ok (.iconst 0, 1) := by decide +kernel
theorem d_L_law_734 : decode c_L_law 734 = .ok (.laload, 1) := by decide +kernel
theorem d_L_law_735 : decode c_L_law 735 = .ok (.iload 6, 2) := by decide +kernel
theorem d_L_law_737 : decode c_L_law 737 = .ok (.i2l, 1) := by decide +kernel
theorem d_L_law_738 : decode c_L_law 738 = .ok (.lcmp, 1) := by decide +kernel
theorem d_L_law_739 : decode c_L_law 739 = .ok (.ifCond .eq 5, 3) := by decide +kernel
theorem d_L_law_742 : decode c_L_law 742 = .ok (.iconst 0, 1) := by decide +kernel
theorem d_L_law_743 : decode c_L_law 743 = .ok (.ireturn, 1) := by decide +kernel
theorem d_L_law_744 : decode c_L_law 744 = .ok (.goto 183, 3) := by decide +kernel
theorem d_L_law_747 : decode c_L_law 747 = .ok (.aload_n 1, 1) := by decide +kernel
theorem d_L_law_748 : decode c_L_law 748 = .ok (.aload_n 0, 1) := by decide +kernel
theorem d_L_law_749 : decode c_L_law 749 = .ok (.iload 4, 2) := by decide +kernel
theorem d_L_law_751 : decode c_L_law 751 = .ok (.iconst 1, 1) := by decide +kernel
theorem d_L_law_752 : decode c_L_law 752 = .ok (.iadd, 1) := by decide +kernel
theorem d_L_law_753 : decode c_L_law 753 = .ok (.iaload, 1) := by decide +kernel
theorem d_L_law_754 : decode c_L_law 754 = .ok (.aload_n 0, 1) := by decide +kernel
theorem d_L_law_755 : decode c_L_law 755 = .ok (.iload 4, 2) := by decide +kernel
theorem d_L_law_757 : decode c_L_law 757 = .ok (.iconst 2, 1) := by decide +kernel
theorem d_L_law_758 : decode c_L_law 758 = .ok (.iadd, 1) := by decide +kernel
theorem d_L_law_759 : decode c_L_law 759 = .ok (.iaload, 1) := by decide +kernel
theorem d_L_law_760 : decode c_L_law 760 = .ok (.aload_n 3, 1) := by decide +kernel
theorem d_L_law_761 : decode c_L_law 761 = .ok (.invokestatic 101, 3) := by decide +kernel
theorem d_L_law_764 : decode c_L_law 764 = .ok (.istore 5, 2) := by decide +kernel
theorem d_L_law_766 : decode c_L_law 766 = .ok (.aload_n 2, 1) := by decide +kernel
theorem d_L_law_767 : decode c_L_law 767 = .ok (.aload_n 0, 1) := by decide +kernel
theorem d_L_law_768 : decode c_L_law 768 = .ok (.iload 4, 2) := by decide +kernel
theorem d_L_law_770 : decode c_L_law 770 = .ok (.iconst 1, 1) := by decide +kernel
theorem d_L_law_771 : decode c_L_law 771 = .ok (.iadd, 1) := by decide +kernel
theorem d_L_law_772 : decode c_L_law 772 = .ok (.iaload, 1) := by decide +kernel
theorem d_L_law_773 : decode c_L_law 773 = .ok (.aload_n 0, 1) := by decide +kernel
theorem d_L_law_774 : decode c_L_law 774 = .ok (.iload 4, 2) := by decide +kernel
theorem d_L_law_776 : decode c_L_law 776 = .ok (.iconst 2, 1) := by decide +kernel
theorem d_L_law_777 : decode c_L_law 777 = .ok (.iadd, 1) := by decide +kernel
theorem d_L_law_778 : decode c_L_law 778 = .ok (.iaload, 1) := by decide +kernel
theorem d_L_law_779 : decode c_L_law 779 = .ok (.invokevirtual 103, 3) := by decide +kernel
theorem d_L_law_782 : decode c_L_law 782 = .ok (.istore 6, 2) := by decide +kernel
theorem d_L_law_784 : decode c_L_law 784 = .ok (.aload_n 2, 1) := by decide +kernel
theorem d_L_law_785 : decode c_L_law 785 = .ok (.invokevirtual 68, 3) := by decide +kernel
theorem d_L_law_788 : decode c_L_law 788 = .ok (.iload 5, 2) := by decide +kernel
theorem d_L_law_790 : decode c_L_law 790 = .ok (.if_icmp .eq 5, 3) := by decide +kernel
theorem d_L_law_793 : decode c_L_law 793 = .ok (.iconst 0, 1) := by decide +kernel
theorem d_L_law_794 : decode c_L_law 794 = .ok (.ireturn, 1) := by decide +kernel
theorem d_L_law_795 : decode c_L_law 795 = .ok (.iload 5, 2) := by decide +kernel
theorem d_L_law_797 : decode c_L_law 797 = .ok (.ifCond .ne 15, 3) := by decide +kernel
theorem d_L_law_800 : decode c_L_law 800 = .ok (.aload_n 3, 1) := by decide +kernel
theorem d_L_law_801 : decode c_L_law 801 = .ok (.iconst 0, 1) := by decide +kernel
theorem d_L_law_802 : decode c_L_law 802 = .ok (.laload, 1) := by decide +kernel
theorem d_L_law_803 : decode c_L_law 803 = .ok (.iload 6, 2) := by decide +kernel
theorem d_L_law_805 : decode c_L_law 805 = .ok (.i2l, 1) := by decide +kernel
theorem d_L_law_806 : decode c_L_law 806 = .ok (.lcmp, 1) := by decide +kernel
theorem d_L_law_807 : decode c_L_law 807 = .ok (.ifCond .eq 5, 3) := by decide +kernel
theorem d_L_law_810 : decode c_L_law 810 = .ok (.iconst 0, 1) := by decide +kernel
theorem d_L_law_811 : decode c_L_law 811 = .ok (.ireturn, 1) := by decide +kernel
theorem d_L_law_812 : decode c_L_law 812 = .ok (.goto 115, 3) := by decide +kernel
theorem d_L_law_815 : decode c_L_law 815 = .ok (.aload_n 1, 1) := by decide +kernel
theorem d_L_law_816 : decode c_L_law 816 = .ok (.aload_n 0, 1) := by decide +kernel
theorem d_L_law_817 : decode c_L_law 817 = .ok (.iload 4, 2) := by decide +kernel
theorem d_L_law_819 : decode c_L_law 819 = .ok (.iconst 1, 1) := by decide +kernel
theorem d_L_law_820 : decode c_L_law 820 = .ok (.iadd, 1) := by decide +kernel
theorem d_L_law_821 : decode c_L_law 821 = .ok (.iaload, 1) := by decide +kernel
theorem d_L_law_822 : decode c_L_law 822 = .ok (.aload_n 3, 1) := by decide +kernel
theorem d_L_law_823 : decode c_L_law 823 = .ok (.invokestatic 104, 3) := by decide +kernel
theorem d_L_law_826 : decode c_L_law 826 = .ok (.istore 5, 2) := by decide +kernel
theorem d_L_law_828 : decode c_L_law 828 = .ok (.aload_n 2, 1) := by decide +kernel
theorem d_L_law_829 : decode c_L_law 829 = .ok (.aload_n 0, 1) := by decide +kernel
theorem d_L_law_830 : decode c_L_law 830 = .ok (.iload 4, 2) := by decide +kernel
theorem d_L_law_832 : decode c_L_law 832 = .ok (.iconst 1, 1) := by decide +kernel
theorem d_L_law_833 : decode c_L_law 833 = .ok (.iadd, 1) := by decide +kernel
theorem d_L_law_834 : decode c_L_law 834 = .ok (.iaload, 1) := by decide +kernel
theorem d_L_law_835 : decode c_L_law 835 = .ok (.invokevirtual 106, 3) := by decide +kernel
theorem d_L_law_838 : decode c_L_law 838 = .ok (.istore 6, 2) := by decide +kernel
theorem d_L_law_840 : decode c_L_law 840 = .ok (.aload_n 2, 1) := by decide +kernel
theorem d_L_law_841 : decode c_L_law 841 = .ok (.invokevirtual 68, 3) := by decide +kernel
theorem d_L_law_844 : decode c_L_law 844 = .ok (.iload 5, 2) := by decide +kernel
theorem d_L_law_846 : decode c_L_law 846 = .ok (.if_icmp .eq 5, 3) := by decide +kernel
theorem d_L_law_849 : decode c_L_law 849 = .ok (.iconst 0, 1) := by decide +kernel
theorem d_L_law_850 : decode c_L_law 850 = .ok (.ireturn, 1) := by decide +kernel
theorem d_L_law_851 : decode c_L_law 851 = .ok (.iload 5, 2) := by decide +kernel
theorem d_L_law_853 : decode c_L_law 853 = .ok (.ifCond .ne 15, 3) := by decide +kernel
theorem d_L_law_856 : decode c_L_law 856 = .ok (.aload_n 3, 1) := by decide +kernel
theorem d_L_law_857 : decode c_L_law 857 = .ok (.iconst 0, 1) := by decide +kernel
theorem d_L_law_858 : decode c_L_law 858 = .ok (.laload, 1) := by decide +kernel
theorem d_L_law_859 : decode c_L_law 859 = .ok (.iload 6, 2) := by decide +kernel
theorem d_L_law_861 : decode c_L_law 861 = .ok (.i2l, 1) := by decide +kernel
theorem d_L_law_862 : decode c_L_law 862 = .ok (.lcmp, 1) := by decide +kernel
theorem d_L_law_863 : decode c_L_law 863 = .ok (.ifCond .eq 5, 3) := by decide +kernel
theorem d_L_law_866 : decode c_L_law 866 = .ok (.iconst 0, 1) := by decide +kernel
theorem d_L_law_867 : decode c_L_law 867 = .ok (.ireturn, 1) := by decide +kernel
theorem d_L_law_868 : decode c_L_law 868 = .ok (.goto 59, 3) := by decide +kernel
theorem d_L_law_871 : decode c_L_law 871 = .ok (.aload_n 1, 1) := by decide +kernel
theorem d_L_law_872 : decode c_L_law 872 = .ok (.aload_n 0, 1) := by decide +kernel
theorem d_L_law_873 : decode c_L_law 873 = .ok (.iload 4, 2) := by decide +kernel
theorem d_L_law_875 : decode c_L_law 875 = .ok (.iconst 1, 1) := by decide +kernel
theorem d_L_law_876 : decode c_L_law 876 = .ok (.iadd, 1) := by decide +kernel
theorem d_L_law_877 : decode c_L_law 877 = .ok (.iaload, 1) := by decide +kernel
theorem d_L_law_878 : decode c_L_law 878 = .ok (.aload_n 3, 1) := by decide +kernel
theorem d_L_law_879 : decode c_L_law 879 = .ok (.invokestatic 107, 3) := by decide +kernel
theorem d_L_law_882 : decode c_L_law 882 = .ok (.istore 5, 2) := by decide +kernel
theorem d_L_law_884 : decode c_L_law 884 = .ok (.aload_n 2, 1) := by decide +kernel
theorem d_L_law_885 : decode c_L_law 885 = .ok (.aload_n 0, 1) := by decide +kernel
theorem d_L_law_886 : decode c_L_law 886 = .ok (.iload 4, 2) := by decide +kernel
theorem d_L_law_888 : decode c_L_law 888 = .ok (.iconst 1, 1) := by decide +kernel
theorem d_L_law_889 : decode c_L_law 889 = .ok (.iadd, 1) := by decide +kernel
theorem d_L_law_890 : decode c_L_law 890 = .ok (.iaload, 1) := by decide +kernel
theorem d_L_law_891 : decode c_L_law 891 = .ok (.invokevirtual 109, 3) := by decide +kernel
theorem d_L_law_894 : decode c_L_law 894 = .ok (.istore 6, 2) := by decide +kernel
theorem d_L_law_896 : decode c_L_law 896 = .ok (.aload_n 2, 1) := by decide +kernel
theorem d_L_law_897 : decode c_L_law 897 = .ok (.invokevirtual 68, 3) := by decide +kernel
theorem d_L_law_900 : decode c_L_law 900 = .ok (.iload 5, 2) := by decide +kernel
theorem d_L_law_902 : decode c_L_law 902 = .ok (.if_icmp .eq 5, 3) := by decide +kernel
theorem d_L_law_905 : decode c_L_law 905 = .ok (.iconst 0, 1) := by decide +kernel
theorem d_L_law_906 : decode c_L_law 906 = .ok (.ireturn, 1) := by decide +kernel
theorem d_L_law_907 : decode c_L_law 907 = .ok (.iload 5, 2) := by decide +kernel
theorem d_L_law_909 : decode c_L_law 909 = .ok (.ifCond .ne 15, 3) := by decide +kernel
theorem d_L_law_912 : decode c_L_law 912 = .ok (.aload_n 3, 1) := by decide +kernel
theorem d_L_law_913 : decode c_L_law 913 = .ok (.iconst 0, 1) := by decide +kernel
theorem d_L_law_914 : decode c_L_law 914 = .ok (.laload, 1) := by decide +kernel
theorem d_L_law_915 : decode c_L_law 915 = .ok (.iload 6, 2) := by decide +kernel
theorem d_L_law_917 : decode c_L_law 917 = .ok (.i2l, 1) := by decide +kernel
theorem d_L_law_918 : decode c_L_law 918 = .ok (.lcmp, 1) := by decide +kernel
theorem d_L_law_919 : decode c_L_law 919 = .ok (.ifCond .eq 5, 3) := by decide +kernel
theorem d_L_law_922 : decode c_L_law 922 = .ok (.iconst 0, 1) := by decide +kernel
theorem d_L_law_923 : decode c_L_law 923 = .ok (.ireturn, 1) := by decide +kernel
theorem d_L_law_924 : decode c_L_law 924 = .ok (.goto 3, 3) := by decide +kernel
theorem d_L_law_927 : decode c_L_law 927 = .ok (.iinc 4 3, 3) := by decide +kernel
theorem d_L_law_930 : decode c_L_law 930 = .ok (.goto (-907), 3) := by decide +kernel
theorem d_L_law_933 : decode c_L_law 933 = .ok (.iconst 1, 1) := by decide +kernel
theorem d_L_law_934 : decode c_L_law 934 = .ok (.ireturn, 1) := by decide +kernel
