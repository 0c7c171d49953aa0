/-! each call of the law -/
section XCASES
variable {p : Program} {l : Launch} {e : Env} {s : State} {m : MethodId} {b : Nat} {below : List Frame} {meth : Method} {c : Code} {D : va_G} {cA : Nat → ClassId} {xa : Nat → Nat} {fm : Value} {xs : Nat → Int32} {adx adm : Nat → Nat} {H : Heap} {locs : List Loc} {ls : Array Slot} {cells slots : Nat}
theorem xjx_set : xmi 66 = some (yX6_set, cX6_set, 6, 4, 5, 1, 1, 0, 0, xt66) := rfl
theorem xjm_set : xmi 124 = some (yX7_set, cX7_set, 7, 4, 5, 1, 1, 0, 0, xt124) := rfl
theorem lc_set (hr : meth.sig.returnType = ret) (hlk : meth.locks = false) (hE : lEnv p l e s m b c D cA xa fm) (hI : lInv s b D cA fm xs adx adm H locs ls cells slots) (hp : ∃ rg, xokR (fun k => xs (k + 1)) rg ∧ xpair false rg 66 124 3 = true) : W p l e room_1 s m #[Value.ref b] below meth c H locs cells slots (lw_Z below #[Value.ref b] s) (F0 m 172 ls []) := by
  obtain ⟨rg, hR, hp⟩ := hp
  have hI2 := hI
  obtain ⟨iP, iD, jP, jD, iN, iS, iL, iX, ib, ic, isl⟩ := hI2
  have g0 := iL.2.2 (0, .ref b) (by simp)
  have g1 := iL.2.2 (1, .ref (adx 0)) (by simp)
  have g2 := iL.2.2 (2, .ref (adm 0)) (by simp)
  have g3 := iL.2.2 (3, .int 0) (by simp)
  refine lv_aload_n (pc := 172) (x := adx 0) hE.1 hE.2.1 dL_law_172 rfl g1 ?_
  refine law_arg (pc := 173) hE iX ib iS g0 g3 (i := 1) (by decide) dL_law_173 dL_law_174 dL_law_175 dL_law_176 dL_law_177 ?_
  refine law_arg (pc := 178) hE iX ib iS g0 g3 (i := 2) (by decide) dL_law_178 dL_law_179 dL_law_180 dL_law_181 dL_law_182 ?_
  refine law_arg (pc := 183) hE iX ib iS g0 g3 (i := 3) (by decide) dL_law_183 dL_law_184 dL_law_185 dL_law_186 dL_law_187 ?_
  refine law_cls (pc := 188) (av := [.int (xs 1), .int (xs 2), .int (xs 3)]) hE hI hR hp xjx_set ⟨rfl, rfl, rfl, rfl, rfl⟩ (fun _ => lav_n3) dL_law_188 (kr_12 _ (List.mem_of_getElem? (i := 1) rfl)) (fun a ad1 H1 locs1 ha jP1 iS1 => ?_)
  refine lv_aload_n (pc := 191) (x := adm 0) hE.1 hE.2.1 dL_law_191 rfl g2 ?_
  refine law_arg (pc := 192) hE iX ib iS1 g0 g3 (i := 1) (by decide) dL_law_192 dL_law_193 dL_law_194 dL_law_195 dL_law_196 ?_
  refine law_arg (pc := 197) hE iX ib iS1 g0 g3 (i := 2) (by decide) dL_law_197 dL_law_198 dL_law_199 dL_law_200 dL_law_201 ?_
  refine law_arg (pc := 202) hE iX ib iS1 g0 g3 (i := 3) (by decide) dL_law_202 dL_law_203 dL_law_204 dL_law_205 dL_law_206 ?_
  refine law_mod (pc := 207) (av := [.int (xs 1), .int (xs 2), .int (xs 3)]) hE hp hR ha jP1 jD iS1 iL.1 ⟨ic, isl⟩ xjm_set ⟨rfl, rfl, rfl, rfl, rfl⟩ (fun _ => lav_n3) dL_law_207 (kr_12 _ (List.mem_of_getElem? (i := 20) rfl)) (fun a2 ad2 H2 locs2 h2 iS2 => ?_)
  exact law_eqI (pc := 210) hr hlk hE iX ib iS2 iL ⟨ic, isl⟩ h2 dL_law_210 rfl
theorem xjx_house : xmi 67 = some (yX6_house, cX6_house, 6, 3, 3, 1, 1, 0, 0, xt67) := rfl
theorem xjm_house : xmi 128 = some (yX7_house, cX7_house, 7, 3, 4, 1, 1, 0, 0, xt128) := rfl
theorem lc_house (hr : meth.sig.returnType = ret) (hlk : meth.locks = false) (hE : lEnv p l e s m b c D cA xa fm) (hI : lInv s b D cA fm xs adx adm H locs ls cells slots) (hp : ∃ rg, xokR (fun k => xs (k + 1)) rg ∧ xpair false rg 67 128 2 = true) : W p l e room_1 s m #[Value.ref b] below meth c H locs cells slots (lw_Z below #[Value.ref b] s) (F0 m 215 ls []) := by
  obtain ⟨rg, hR, hp⟩ := hp
  have hI2 := hI
  obtain ⟨iP, iD, jP, jD, iN, iS, iL, iX, ib, ic, isl⟩ := hI2
  have g0 := iL.2.2 (0, .ref b) (by simp)
  have g1 := iL.2.2 (1, .ref (adx 0)) (by simp)
  have g2 := iL.2.2 (2, .ref (adm 0)) (by simp)
  have g3 := iL.2.2 (3, .int 0) (by simp)
  refine lv_aload_n (pc := 215) (x := adx 0) hE.1 hE.2.1 dL_law_215 rfl g1 ?_
  refine law_arg (pc := 216) hE iX ib iS g0 g3 (i := 1) (by decide) dL_law_216 dL_law_217 dL_law_218 dL_law_219 dL_law_220 ?_
  refine law_arg (pc := 221) hE iX ib iS g0 g3 (i := 2) (by decide) dL_law_221 dL_law_222 dL_law_223 dL_law_224 dL_law_225 ?_
  refine law_cls (pc := 226) (av := [.int (xs 1), .int (xs 2)]) hE hI hR hp xjx_house ⟨rfl, rfl, rfl, rfl, rfl⟩ (fun _ => lav_n2) dL_law_226 (kr_23 _ (List.mem_of_getElem? (i := 20) rfl)) (fun a ad1 H1 locs1 ha jP1 iS1 => ?_)
  refine lv_aload_n (pc := 229) (x := adm 0) hE.1 hE.2.1 dL_law_229 rfl g2 ?_
  refine law_arg (pc := 230) hE iX ib iS1 g0 g3 (i := 1) (by decide) dL_law_230 dL_law_231 dL_law_232 dL_law_233 dL_law_234 ?_
  refine law_arg (pc := 235) hE iX ib iS1 g0 g3 (i := 2) (by decide) dL_law_235 dL_law_236 dL_law_237 dL_law_238 dL_law_239 ?_
  refine law_mod (pc := 240) (av := [.int (xs 1), .int (xs 2)]) hE hp hR ha jP1 jD iS1 iL.1 ⟨ic, isl⟩ xjm_house ⟨rfl, rfl, rfl, rfl, rfl⟩ (fun _ => lav_n2) dL_law_240 (kr_24 _ (List.mem_of_getElem? (i := 9) rfl)) (fun a2 ad2 H2 locs2 h2 iS2 => ?_)
  exact law_eqI (pc := 243) hr hlk hE iX ib iS2 iL ⟨ic, isl⟩ h2 dL_law_243 rfl
theorem xjx_bind : xmi 68 = some (yX6_bind, cX6_bind, 6, 4, 5, 1, 1, 0, 0, xt68) := rfl
theorem xjm_bind : xmi 130 = some (yX7_bind, cX7_bind, 7, 4, 5, 1, 1, 0, 0, xt130) := rfl
theorem lc_bind (hr : meth.sig.returnType = ret) (hlk : meth.locks = false) (hE : lEnv p l e s m b c D cA xa fm) (hI : lInv s b D cA fm xs adx adm H locs ls cells slots) (hp : ∃ rg, xokR (fun k => xs (k + 1)) rg ∧ xpair false rg 68 130 3 = true) : W p l e room_1 s m #[Value.ref b] below meth c H locs cells slots (lw_Z below #[Value.ref b] s) (F0 m 248 ls []) := by
  obtain ⟨rg, hR, hp⟩ := hp
  have hI2 := hI
  obtain ⟨iP, iD, jP, jD, iN, iS, iL, iX, ib, ic, isl⟩ := hI2
  have g0 := iL.2.2 (0, .ref b) (by simp)
  have g1 := iL.2.2 (1, .ref (adx 0)) (by simp)
  have g2 := iL.2.2 (2, .ref (adm 0)) (by simp)
  have g3 := iL.2.2 (3, .int 0) (by simp)
  refine lv_aload_n (pc := 248) (x := adx 0) hE.1 hE.2.1 dL_law_248 rfl g1 ?_
  refine law_arg (pc := 249) hE iX ib iS g0 g3 (i := 1) (by decide) dL_law_249 dL_law_250 dL_law_251 dL_law_252 dL_law_253 ?_
  refine law_arg (pc := 254) hE iX ib iS g0 g3 (i := 2) (by decide) dL_law_254 dL_law_255 dL_law_256 dL_law_257 dL_law_258 ?_
  refine law_arg (pc := 259) hE iX ib iS g0 g3 (i := 3) (by decide) dL_law_259 dL_law_260 dL_law_261 dL_law_262 dL_law_263 ?_
  refine law_cls (pc := 264) (av := [.int (xs 1), .int (xs 2), .int (xs 3)]) hE hI hR hp xjx_bind ⟨rfl, rfl, rfl, rfl, rfl⟩ (fun _ => lav_n3) dL_law_264 (kr_24 _ (List.mem_of_getElem? (i := 18) rfl)) (fun a ad1 H1 locs1 ha jP1 iS1 => ?_)
  refine lv_aload_n (pc := 267) (x := adm 0) hE.1 hE.2.1 dL_law_267 rfl g2 ?_
  refine law_arg (pc := 268) hE iX ib iS1 g0 g3 (i := 1) (by decide) dL_law_268 dL_law_269 dL_law_270 dL_law_271 dL_law_272 ?_
  refine law_arg (pc := 273) hE iX ib iS1 g0 g3 (i := 2) (by decide) dL_law_273 dL_law_274 dL_law_275 dL_law_276 dL_law_277 ?_
  refine law_arg (pc := 278) hE iX ib iS1 g0 g3 (i := 3) (by decide) dL_law_278 dL_law_279 dL_law_280 dL_law_281 dL_law_282 ?_
  refine law_mod (pc := 283) (av := [.int (xs 1), .int (xs 2), .int (xs 3)]) hE hp hR ha jP1 jD iS1 iL.1 ⟨ic, isl⟩ xjm_bind ⟨rfl, rfl, rfl, rfl, rfl⟩ (fun _ => lav_n3) dL_law_283 (kr_25 _ (List.mem_of_getElem? (i := 7) rfl)) (fun a2 ad2 H2 locs2 h2 iS2 => ?_)
  exact law_eqI (pc := 286) hr hlk hE iX ib iS2 iL ⟨ic, isl⟩ h2 dL_law_286 rfl
theorem xjx_told : xmi 69 = some (yX6_told, cX6_told, 6, 3, 4, 1, 1, 0, 0, xt69) := rfl
theorem xjm_told : xmi 131 = some (yX7_told, cX7_told, 7, 3, 6, 1, 1, 0, 0, xt131) := rfl
theorem lc_told (hr : meth.sig.returnType = ret) (hlk : meth.locks = false) (hE : lEnv p l e s m b c D cA xa fm) (hI : lInv s b D cA fm xs adx adm H locs ls cells slots) (hp : ∃ rg, xokR (fun k => xs (k + 1)) rg ∧ xpair false rg 69 131 2 = true) : W p l e room_1 s m #[Value.ref b] below meth c H locs cells slots (lw_Z below #[Value.ref b] s) (F0 m 291 ls []) := by
  obtain ⟨rg, hR, hp⟩ := hp
  have hI2 := hI
  obtain ⟨iP, iD, jP, jD, iN, iS, iL, iX, ib, ic, isl⟩ := hI2
  have g0 := iL.2.2 (0, .ref b) (by simp)
  have g1 := iL.2.2 (1, .ref (adx 0)) (by simp)
  have g2 := iL.2.2 (2, .ref (adm 0)) (by simp)
  have g3 := iL.2.2 (3, .int 0) (by simp)
  refine lv_aload_n (pc := 291) (x := adx 0) hE.1 hE.2.1 dL_law_291 rfl g1 ?_
  refine law_arg (pc := 292) hE iX ib iS g0 g3 (i := 1) (by decide) dL_law_292 dL_law_293 dL_law_294 dL_law_295 dL_law_296 ?_
  refine law_arg (pc := 297) hE iX ib iS g0 g3 (i := 2) (by decide) dL_law_297 dL_law_298 dL_law_299 dL_law_300 dL_law_301 ?_
  refine law_cls (pc := 302) (av := [.int (xs 1), .int (xs 2)]) hE hI hR hp xjx_told ⟨rfl, rfl, rfl, rfl, rfl⟩ (fun _ => lav_n2) dL_law_302 (kr_25 _ (List.mem_of_getElem? (i := 15) rfl)) (fun a ad1 H1 locs1 ha jP1 iS1 => ?_)
  refine lv_aload_n (pc := 305) (x := adm 0) hE.1 hE.2.1 dL_law_305 rfl g2 ?_
  refine law_arg (pc := 306) hE iX ib iS1 g0 g3 (i := 1) (by decide) dL_law_306 dL_law_307 dL_law_308 dL_law_309 dL_law_310 ?_
  refine law_arg (pc := 311) hE iX ib iS1 g0 g3 (i := 2) (by decide) dL_law_311 dL_law_312 dL_law_313 dL_law_314 dL_law_315 ?_
  refine law_mod (pc := 316) (av := [.int (xs 1), .int (xs 2)]) hE hp hR ha jP1 jD iS1 iL.1 ⟨ic, isl⟩ xjm_told ⟨rfl, rfl, rfl, rfl, rfl⟩ (fun _ => lav_n2) dL_law_316 (kr_27 _ (List.mem_of_getElem? (i := 14) rfl)) (fun a2 ad2 H2 locs2 h2 iS2 => ?_)
  exact law_eqI (pc := 319) hr hlk hE iX ib iS2 iL ⟨ic, isl⟩ h2 dL_law_319 rfl
theorem xjx_feed : xmi 70 = some (yX6_feed, cX6_feed, 6, 2, 2, 1, 1, 0, 0, xt70) := rfl
theorem xjm_feed : xmi 133 = some (yX7_feed, cX7_feed, 7, 2, 2, 1, 1, 0, 0, xt133) := rfl
theorem lc_feed (hr : meth.sig.returnType = ret) (hlk : meth.locks = false) (hE : lEnv p l e s m b c D cA xa fm) (hI : lInv s b D cA fm xs adx adm H locs ls cells slots) (hp : ∃ rg, xokR (fun k => xs (k + 1)) rg ∧ xpair false rg 70 133 1 = true) : W p l e room_1 s m #[Value.ref b] below meth c H locs cells slots (lw_Z below #[Value.ref b] s) (F0 m 324 ls []) := by
  obtain ⟨rg, hR, hp⟩ := hp
  have hI2 := hI
  obtain ⟨iP, iD, jP, jD, iN, iS, iL, iX, ib, ic, isl⟩ := hI2
  have g0 := iL.2.2 (0, .ref b) (by simp)
  have g1 := iL.2.2 (1, .ref (adx 0)) (by simp)
  have g2 := iL.2.2 (2, .ref (adm 0)) (by simp)
  have g3 := iL.2.2 (3, .int 0) (by simp)
  refine lv_aload_n (pc := 324) (x := adx 0) hE.1 hE.2.1 dL_law_324 rfl g1 ?_
  refine law_arg (pc := 325) hE iX ib iS g0 g3 (i := 1) (by decide) dL_law_325 dL_law_326 dL_law_327 dL_law_328 dL_law_329 ?_
  refine law_cls (pc := 330) (av := [.int (xs 1)]) hE hI hR hp xjx_feed ⟨rfl, rfl, rfl, rfl, rfl⟩ (fun _ => lav_n1) dL_law_330 (kr_27 _ (List.mem_of_getElem? (i := 15) rfl)) (fun a ad1 H1 locs1 ha jP1 iS1 => ?_)
  refine lv_aload_n (pc := 333) (x := adm 0) hE.1 hE.2.1 dL_law_333 rfl g2 ?_
  refine law_arg (pc := 334) hE iX ib iS1 g0 g3 (i := 1) (by decide) dL_law_334 dL_law_335 dL_law_336 dL_law_337 dL_law_338 ?_
  refine law_mod (pc := 339) (av := [.int (xs 1)]) hE hp hR ha jP1 jD iS1 iL.1 ⟨ic, isl⟩ xjm_feed ⟨rfl, rfl, rfl, rfl, rfl⟩ (fun _ => lav_n1) dL_law_339 (kr_27 _ (List.mem_of_getElem? (i := 20) rfl)) (fun a2 ad2 H2 locs2 h2 iS2 => ?_)
  exact law_eqI (pc := 342) hr hlk hE iX ib iS2 iL ⟨ic, isl⟩ h2 dL_law_342 rfl
theorem xjx_text : xmi 71 = some (yX6_text, cX6_text, 6, 1, 2, 1, 1, 0, 0, xt71) := rfl
theorem xjm_text : xmi 180 = some (yX7_text, cX7_text, 7, 1, 2, 1, 1, 0, 0, xt180) := rfl
theorem lc_text (hr : meth.sig.returnType = ret) (hlk : meth.locks = false) (hE : lEnv p l e s m b c D cA xa fm) (hI : lInv s b D cA fm xs adx adm H locs ls cells slots) (hp : ∃ rg, xokR (fun k => xs (k + 1)) rg ∧ xpair false rg 71 180 0 = true) : W p l e room_1 s m #[Value.ref b] below meth c H locs cells slots (lw_Z below #[Value.ref b] s) (F0 m 347 ls []) := by
  obtain ⟨rg, hR, hp⟩ := hp
  have hI2 := hI
  obtain ⟨iP, iD, jP, jD, iN, iS, iL, iX, ib, ic, isl⟩ := hI2
  have g0 := iL.2.2 (0, .ref b) (by simp)
  have g1 := iL.2.2 (1, .ref (adx 0)) (by simp)
  have g2 := iL.2.2 (2, .ref (adm 0)) (by simp)
  have g3 := iL.2.2 (3, .int 0) (by simp)
  refine lv_aload_n (pc := 347) (x := adx 0) hE.1 hE.2.1 dL_law_347 rfl g1 ?_
  refine law_cls (pc := 348) (av := []) hE hI hR hp xjx_text ⟨rfl, rfl, rfl, rfl, rfl⟩ (fun _ => lav_0) dL_law_348 (kr_28 _ (List.mem_of_getElem? (i := 2) rfl)) (fun a ad1 H1 locs1 ha jP1 iS1 => ?_)
  refine lv_aload_n (pc := 351) (x := adm 0) hE.1 hE.2.1 dL_law_351 rfl g2 ?_
  refine law_mod (pc := 352) (av := []) hE hp hR ha jP1 jD iS1 iL.1 ⟨ic, isl⟩ xjm_text ⟨rfl, rfl, rfl, rfl, rfl⟩ (fun _ => lav_0) dL_law_352 (kr_28 _ (List.mem_of_getElem? (i := 6) rfl)) (fun a2 ad2 H2 locs2 h2 iS2 => ?_)
  exact law_eqI (pc := 355) hr hlk hE iX ib iS2 iL ⟨ic, isl⟩ h2 dL_law_355 rfl
theorem xjx_force : xmi 72 = some (yX6_force, cX6_force, 6, 2, 3, 1, 1, 0, 0, xt72) := rfl
theorem xjm_force : xmi 181 = some (yX7_force, cX7_force, 7, 2, 3, 1, 1, 0, 0, xt181) := rfl
theorem lc_force (hr : meth.sig.returnType = ret) (hlk : meth.locks = false) (hE : lEnv p l e s m b c D cA xa fm) (hI : lInv s b D cA fm xs adx adm H locs ls cells slots) (hp : ∃ rg, xokR (fun k => xs (k + 1)) rg ∧ xpair false rg 72 181 1 = true) : W p l e room_1 s m #[Value.ref b] below meth c H locs cells slots (lw_Z below #[Value.ref b] s) (F0 m 360 ls []) := by
  obtain ⟨rg, hR, hp⟩ := hp
  have hI2 := hI
  obtain ⟨iP, iD, jP, jD, iN, iS, iL, iX, ib, ic, isl⟩ := hI2
  have g0 := iL.2.2 (0, .ref b) (by simp)
  have g1 := iL.2.2 (1, .ref (adx 0)) (by simp)
  have g2 := iL.2.2 (2, .ref (adm 0)) (by simp)
  have g3 := iL.2.2 (3, .int 0) (by simp)
  refine lv_aload_n (pc := 360) (x := adx 0) hE.1 hE.2.1 dL_law_360 rfl g1 ?_
  refine law_arg (pc := 361) hE iX ib iS g0 g3 (i := 1) (by decide) dL_law_361 dL_law_362 dL_law_363 dL_law_364 dL_law_365 ?_
  refine law_cls (pc := 366) (av := [.int (xs 1)]) hE hI hR hp xjx_force ⟨rfl, rfl, rfl, rfl, rfl⟩ (fun _ => lav_n1) dL_law_366 (kr_28 _ (List.mem_of_getElem? (i := 10) rfl)) (fun a ad1 H1 locs1 ha jP1 iS1 => ?_)
  refine lv_aload_n (pc := 369) (x := adm 0) hE.1 hE.2.1 dL_law_369 rfl g2 ?_
  refine law_arg (pc := 370) hE iX ib iS1 g0 g3 (i := 1) (by decide) dL_law_370 dL_law_371 dL_law_372 dL_law_373 dL_law_374 ?_
  refine law_mod (pc := 375) (av := [.int (xs 1)]) hE hp hR ha jP1 jD iS1 iL.1 ⟨ic, isl⟩ xjm_force ⟨rfl, rfl, rfl, rfl, rfl⟩ (fun _ => lav_n1) dL_law_375 (kr_28 _ (List.mem_of_getElem? (i := 16) rfl)) (fun a2 ad2 H2 locs2 h2 iS2 => ?_)
  exact law_eqI (pc := 378) hr hlk hE iX ib iS2 iL ⟨ic, isl⟩ h2 dL_law_378 rfl
theorem xjx_asks : xmi 73 = some (yX6_asks, cX6_asks, 6, 4, 4, 1, 1, 0, 0, xt73) := rfl
theorem xjm_asks : xmi 187 = some (yX7_asks, cX7_asks, 7, 4, 4, 1, 1, 0, 0, xt187) := rfl
theorem lc_asks (hr : meth.sig.returnType = ret) (hlk : meth.locks = false) (hE : lEnv p l e s m b c D cA xa fm) (hI : lInv s b D cA fm xs adx adm H locs ls cells slots) (hp : ∃ rg, xokR (fun k => xs (k + 1)) rg ∧ xpair false rg 73 187 3 = true) : W p l e room_1 s m #[Value.ref b] below meth c H locs cells slots (lw_Z below #[Value.ref b] s) (F0 m 383 ls []) := by
  obtain ⟨rg, hR, hp⟩ := hp
  have hI2 := hI
  obtain ⟨iP, iD, jP, jD, iN, iS, iL, iX, ib, ic, isl⟩ := hI2
  have g0 := iL.2.2 (0, .ref b) (by simp)
  have g1 := iL.2.2 (1, .ref (adx 0)) (by simp)
  have g2 := iL.2.2 (2, .ref (adm 0)) (by simp)
  have g3 := iL.2.2 (3, .int 0) (by simp)
  refine lv_aload_n (pc := 383) (x := adx 0) hE.1 hE.2.1 dL_law_383 rfl g1 ?_
  refine law_arg (pc := 384) hE iX ib iS g0 g3 (i := 1) (by decide) dL_law_384 dL_law_385 dL_law_386 dL_law_387 dL_law_388 ?_
  refine law_arg (pc := 389) hE iX ib iS g0 g3 (i := 2) (by decide) dL_law_389 dL_law_390 dL_law_391 dL_law_392 dL_law_393 ?_
  refine law_arg (pc := 394) hE iX ib iS g0 g3 (i := 3) (by decide) dL_law_394 dL_law_395 dL_law_396 dL_law_397 dL_law_398 ?_
  refine law_cls (pc := 399) (av := [.int (xs 1), .int (xs 2), .int (xs 3)]) hE hI hR hp xjx_asks ⟨rfl, rfl, rfl, rfl, rfl⟩ (fun _ => lav_n3) dL_law_399 (kr_28 _ (List.mem_of_getElem? (i := 20) rfl)) (fun a ad1 H1 locs1 ha jP1 iS1 => ?_)
  refine lv_aload_n (pc := 402) (x := adm 0) hE.1 hE.2.1 dL_law_402 rfl g2 ?_
  refine law_arg (pc := 403) hE iX ib iS1 g0 g3 (i := 1) (by decide) dL_law_403 dL_law_404 dL_law_405 dL_law_406 dL_law_407 ?_
  refine law_arg (pc := 408) hE iX ib iS1 g0 g3 (i := 2) (by decide) dL_law_408 dL_law_409 dL_law_410 dL_law_411 dL_law_412 ?_
  refine law_arg (pc := 413) hE iX ib iS1 g0 g3 (i := 3) (by decide) dL_law_413 dL_law_414 dL_law_415 dL_law_416 dL_law_417 ?_
  refine law_mod (pc := 418) (av := [.int (xs 1), .int (xs 2), .int (xs 3)]) hE hp hR ha jP1 jD iS1 iL.1 ⟨ic, isl⟩ xjm_asks ⟨rfl, rfl, rfl, rfl, rfl⟩ (fun _ => lav_n3) dL_law_418 (kr_29 _ (List.mem_of_getElem? (i := 11) rfl)) (fun a2 ad2 H2 locs2 h2 iS2 => ?_)
  exact law_eqI (pc := 421) hr hlk hE iX ib iS2 iL ⟨ic, isl⟩ h2 dL_law_421 rfl
theorem xjx_feast : xmi 74 = some (yX6_feast, cX6_feast, 6, 1, 1, 1, 1, 0, 0, xt74) := rfl
theorem xjm_feast : xmi 190 = some (yX7_feast, cX7_feast, 7, 1, 1, 1, 1, 0, 0, xt190) := rfl
theorem lc_feast (hr : meth.sig.returnType = ret) (hlk : meth.locks = false) (hE : lEnv p l e s m b c D cA xa fm) (hI : lInv s b D cA fm xs adx adm H locs ls cells slots) (hp : ∃ rg, xokR (fun k => xs (k + 1)) rg ∧ xpair false rg 74 190 0 = true) : W p l e room_1 s m #[Value.ref b] below meth c H locs cells slots (lw_Z below #[Value.ref b] s) (F0 m 426 ls []) := by
  obtain ⟨rg, hR, hp⟩ := hp
  have hI2 := hI
  obtain ⟨iP, iD, jP, jD, iN, iS, iL, iX, ib, ic, isl⟩ := hI2
  have g0 := iL.2.2 (0, .ref b) (by simp)
  have g1 := iL.2.2 (1, .ref (adx 0)) (by simp)
  have g2 := iL.2.2 (2, .ref (adm 0)) (by simp)
  have g3 := iL.2.2 (3, .int 0) (by simp)
  refine lv_aload_n (pc := 426) (x := adx 0) hE.1 hE.2.1 dL_law_426 rfl g1 ?_
  refine law_cls (pc := 427) (av := []) hE hI hR hp xjx_feast ⟨rfl, rfl, rfl, rfl, rfl⟩ (fun _ => lav_0) dL_law_427 (kr_29 _ (List.mem_of_getElem? (i := 23) rfl)) (fun a ad1 H1 locs1 ha jP1 iS1 => ?_)
  refine lv_aload_n (pc := 430) (x := adm 0) hE.1 hE.2.1 dL_law_430 rfl g2 ?_
  refine law_mod (pc := 431) (av := []) hE hp hR ha jP1 jD iS1 iL.1 ⟨ic, isl⟩ xjm_feast ⟨rfl, rfl, rfl, rfl, rfl⟩ (fun _ => lav_0) dL_law_431 (kr_30 _ (List.mem_of_getElem? (i := 14) rfl)) (fun a2 ad2 H2 locs2 h2 iS2 => ?_)
  exact law_eqI (pc := 434) hr hlk hE iX ib iS2 iL ⟨ic, isl⟩ h2 dL_law_434 rfl
theorem xjx_year : xmi 75 = some (yX6_year, cX6_year, 6, 1, 1, 1, 1, 0, 0, xt75) := rfl
theorem xjm_year : xmi 191 = some (yX7_year, cX7_year, 7, 1, 1, 1, 1, 0, 0, xt191) := rfl
theorem lc_year (hr : meth.sig.returnType = ret) (hlk : meth.locks = false) (hE : lEnv p l e s m b c D cA xa fm) (hI : lInv s b D cA fm xs adx adm H locs ls cells slots) (hp : ∃ rg, xokR (fun k => xs (k + 1)) rg ∧ xpair false rg 75 191 0 = true) : W p l e room_1 s m #[Value.ref b] below meth c H locs cells slots (lw_Z below #[Value.ref b] s) (F0 m 439 ls []) := by
  obtain ⟨rg, hR, hp⟩ := hp
  have hI2 := hI
  obtain ⟨iP, iD, jP, jD, iN, iS, iL, iX, ib, ic, isl⟩ := hI2
  have g0 := iL.2.2 (0, .ref b) (by simp)
  have g1 := iL.2.2 (1, .ref (adx 0)) (by simp)
  have g2 := iL.2.2 (2, .ref (adm 0)) (by simp)
  have g3 := iL.2.2 (3, .int 0) (by simp)
  refine lv_aload_n (pc := 439) (x := adx 0) hE.1 hE.2.1 dL_law_439 rfl g1 ?_
  refine law_cls (pc := 440) (av := []) hE hI hR hp xjx_year ⟨rfl, rfl, rfl, rfl, rfl⟩ (fun _ => lav_0) dL_law_440 (kr_31 _ (List.mem_of_getElem? (i := 2) rfl)) (fun a ad1 H1 locs1 ha jP1 iS1 => ?_)
  refine lv_aload_n (pc := 443) (x := adm 0) hE.1 hE.2.1 dL_law_443 rfl g2 ?_
  refine law_mod (pc := 444) (av := []) hE hp hR ha jP1 jD iS1 iL.1 ⟨ic, isl⟩ xjm_year ⟨rfl, rfl, rfl, rfl, rfl⟩ (fun _ => lav_0) dL_law_444 (kr_31 _ (List.mem_of_getElem? (i := 12) rfl)) (fun a2 ad2 H2 locs2 h2 iS2 => ?_)
  exact law_eqI (pc := 447) hr hlk hE iX ib iS2 iL ⟨ic, isl⟩ h2 dL_law_447 rfl
theorem xjx_street : xmi 76 = some (yX6_street, cX6_street, 6, 2, 2, 1, 1, 0, 0, xt76) := rfl
theorem xjm_street : xmi 201 = some (yX7_street, cX7_street, 7, 2, 2, 1, 1, 0, 0, xt201) := rfl
theorem lc_street (hr : meth.sig.returnType = ret) (hlk : meth.locks = false) (hE : lEnv p l e s m b c D cA xa fm) (hI : lInv s b D cA fm xs adx adm H locs ls cells slots) (hp : ∃ rg, xokR (fun k => xs (k + 1)) rg ∧ xpair false rg 76 201 1 = true) : W p l e room_1 s m #[Value.ref b] below meth c H locs cells slots (lw_Z below #[Value.ref b] s) (F0 m 452 ls []) := by
  obtain ⟨rg, hR, hp⟩ := hp
  have hI2 := hI
  obtain ⟨iP, iD, jP, jD, iN, iS, iL, iX, ib, ic, isl⟩ := hI2
  have g0 := iL.2.2 (0, .ref b) (by simp)
  have g1 := iL.2.2 (1, .ref (adx 0)) (by simp)
  have g2 := iL.2.2 (2, .ref (adm 0)) (by simp)
  have g3 := iL.2.2 (3, .int 0) (by simp)
  refine lv_aload_n (pc := 452) (x := adx 0) hE.1 hE.2.1 dL_law_452 rfl g1 ?_
  refine law_arg (pc := 453) hE iX ib iS g0 g3 (i := 1) (by decide) dL_law_453 dL_law_454 dL_law_455 dL_law_456 dL_law_457 ?_
  refine law_cls (pc := 458) (av := [.int (xs 1)]) hE hI hR hp xjx_street ⟨rfl, rfl, rfl, rfl, rfl⟩ (fun _ => lav_n1) dL_law_458 (kr_31 _ (List.mem_of_getElem? (i := 20) rfl)) (fun a ad1 H1 locs1 ha jP1 iS1 => ?_)
  refine lv_aload_n (pc := 461) (x := adm 0) hE.1 hE.2.1 dL_law_461 rfl g2 ?_
  refine law_arg (pc := 462) hE iX ib iS1 g0 g3 (i := 1) (by decide) dL_law_462 dL_law_463 dL_law_464 dL_law_465 dL_law_466 ?_
  refine law_mod (pc := 467) (av := [.int (xs 1)]) hE hp hR ha jP1 jD iS1 iL.1 ⟨ic, isl⟩ xjm_street ⟨rfl, rfl, rfl, rfl, rfl⟩ (fun _ => lav_n1) dL_law_467 (kr_34 _ (List.mem_of_getElem? (i := 13) rfl)) (fun a2 ad2 H2 locs2 h2 iS2 => ?_)
  exact law_eqI (pc := 470) hr hlk hE iX ib iS2 iL ⟨ic, isl⟩ h2 dL_law_470 rfl
theorem xjx_way : xmi 77 = some (yX6_way, cX6_way, 6, 3, 3, 1, 1, 0, 0, xt77) := rfl
theorem xjm_way : xmi 202 = some (yX7_way, cX7_way, 7, 3, 3, 1, 1, 0, 0, xt202) := rfl
theorem lc_way (hr : meth.sig.returnType = ret) (hlk : meth.locks = false) (hE : lEnv p l e s m b c D cA xa fm) (hI : lInv s b D cA fm xs adx adm H locs ls cells slots) (hp : ∃ rg, xokR (fun k => xs (k + 1)) rg ∧ xpair false rg 77 202 2 = true) : W p l e room_1 s m #[Value.ref b] below meth c H locs cells slots (lw_Z below #[Value.ref b] s) (F0 m 475 ls []) := by
  obtain ⟨rg, hR, hp⟩ := hp
  have hI2 := hI
  obtain ⟨iP, iD, jP, jD, iN, iS, iL, iX, ib, ic, isl⟩ := hI2
  have g0 := iL.2.2 (0, .ref b) (by simp)
  have g1 := iL.2.2 (1, .ref (adx 0)) (by simp)
  have g2 := iL.2.2 (2, .ref (adm 0)) (by simp)
  have g3 := iL.2.2 (3, .int 0) (by simp)
  refine lv_aload_n (pc := 475) (x := adx 0) hE.1 hE.2.1 dL_law_475 rfl g1 ?_
  refine law_arg (pc := 476) hE iX ib iS g0 g3 (i := 1) (by decide) dL_law_476 dL_law_477 dL_law_478 dL_law_479 dL_law_480 ?_
  refine law_arg (pc := 481) hE iX ib iS g0 g3 (i := 2) (by decide) dL_law_481 dL_law_482 dL_law_483 dL_law_484 dL_law_485 ?_
  refine law_cls (pc := 486) (av := [.int (xs 1), .int (xs 2)]) hE hI hR hp xjx_way ⟨rfl, rfl, rfl, rfl, rfl⟩ (fun _ => lav_n2) dL_law_486 (kr_35 _ (List.mem_of_getElem? (i := 21) rfl)) (fun a ad1 H1 locs1 ha jP1 iS1 => ?_)
  refine lv_aload_n (pc := 489) (x := adm 0) hE.1 hE.2.1 dL_law_489 rfl g2 ?_
  refine law_arg (pc := 490) hE iX ib iS1 g0 g3 (i := 1) (by decide) dL_law_490 dL_law_491 dL_law_492 dL_law_493 dL_law_494 ?_
  refine law_arg (pc := 495) hE iX ib iS1 g0 g3 (i := 2) (by decide) dL_law_495 dL_law_496 dL_law_497 dL_law_498 dL_law_499 ?_
  refine law_mod (pc := 500) (av := [.int (xs 1), .int (xs 2)]) hE hp hR ha jP1 jD iS1 iL.1 ⟨ic, isl⟩ xjm_way ⟨rfl, rfl, rfl, rfl, rfl⟩ (fun _ => lav_n2) dL_law_500 (kr_36 _ (List.mem_of_getElem? (i := 2) rfl)) (fun a2 ad2 H2 locs2 h2 iS2 => ?_)
  exact law_eqI (pc := 503) hr hlk hE iX ib iS2 iL ⟨ic, isl⟩ h2 dL_law_503 rfl
theorem xjx_run : xmi 78 = some (yX6_run, cX6_run, 6, 3, 3, 1, 1, 0, 0, xt78) := rfl
theorem xjm_run : xmi 206 = some (yX7_run, cX7_run, 7, 3, 4, 1, 1, 0, 0, xt206) := rfl
theorem lc_run (hr : meth.sig.returnType = ret) (hlk : meth.locks = false) (hE : lEnv p l e s m b c D cA xa fm) (hI : lInv s b D cA fm xs adx adm H locs ls cells slots) (hp : ∃ rg, xokR (fun k => xs (k + 1)) rg ∧ xpair false rg 78 206 2 = true) : W p l e room_1 s m #[Value.ref b] below meth c H locs cells slots (lw_Z below #[Value.ref b] s) (F0 m 508 ls []) := by
  obtain ⟨rg, hR, hp⟩ := hp
  have hI2 := hI
  obtain ⟨iP, iD, jP, jD, iN, iS, iL, iX, ib, ic, isl⟩ := hI2
  have g0 := iL.2.2 (0, .ref b) (by simp)
  have g1 := iL.2.2 (1, .ref (adx 0)) (by simp)
  have g2 := iL.2.2 (2, .ref (adm 0)) (by simp)
  have g3 := iL.2.2 (3, .int 0) (by simp)
  refine lv_aload_n (pc := 508) (x := adx 0) hE.1 hE.2.1 dL_law_508 rfl g1 ?_
  refine law_arg (pc := 509) hE iX ib iS g0 g3 (i := 1) (by decide) dL_law_509 dL_law_510 dL_law_511 dL_law_512 dL_law_513 ?_
  refine law_arg (pc := 514) hE iX ib iS g0 g3 (i := 2) (by decide) dL_law_514 dL_law_515 dL_law_516 dL_law_517 dL_law_518 ?_
  refine law_cls (pc := 519) (av := [.int (xs 1), .int (xs 2)]) hE hI hR hp xjx_run ⟨rfl, rfl, rfl, rfl, rfl⟩ (fun _ => lav_n2) dL_law_519 (kr_36 _ (List.mem_of_getElem? (i := 6) rfl)) (fun a ad1 H1 locs1 ha jP1 iS1 => ?_)
  refine lv_aload_n (pc := 522) (x := adm 0) hE.1 hE.2.1 dL_law_522 rfl g2 ?_
  refine law_arg (pc := 523) hE iX ib iS1 g0 g3 (i := 1) (by decide) dL_law_523 dL_law_524 dL_law_525 dL_law_526 dL_law_527 ?_
  refine law_arg (pc := 528) hE iX ib iS1 g0 g3 (i := 2) (by decide) dL_law_528 dL_law_529 dL_law_530 dL_law_531 dL_law_532 ?_
  refine law_mod (pc := 533) (av := [.int (xs 1), .int (xs 2)]) hE hp hR ha jP1 jD iS1 iL.1 ⟨ic, isl⟩ xjm_run ⟨rfl, rfl, rfl, rfl, rfl⟩ (fun _ => lav_n2) dL_law_533 (kr_37 _ (List.mem_of_getElem? (i := 4) rfl)) (fun a2 ad2 H2 locs2 h2 iS2 => ?_)
  exact law_eqI (pc := 536) hr hlk hE iX ib iS2 iL ⟨ic, isl⟩ h2 dL_law_536 rfl
theorem xjx_takes : xmi 79 = some (yX6_takes, cX6_takes, 6, 2, 4, 1, 1, 0, 0, xt79) := rfl
theorem xjm_takes : xmi 208 = some (yX7_takes, cX7_takes, 7, 2, 3, 1, 1, 0, 0, xt208) := rfl
theorem lc_takes (hr : meth.sig.returnType = ret) (hlk : meth.locks = false) (hE : lEnv p l e s m b c D cA xa fm) (hI : lInv s b D cA fm xs adx adm H locs ls cells slots) (hp : ∃ rg, xokR (fun k => xs (k + 1)) rg ∧ xpair false rg 79 208 1 = true) : W p l e room_1 s m #[Value.ref b] below meth c H locs cells slots (lw_Z below #[Value.ref b] s) (F0 m 541 ls []) := by
  obtain ⟨rg, hR, hp⟩ := hp
  have hI2 := hI
  obtain ⟨iP, iD, jP, jD, iN, iS, iL, iX, ib, ic, isl⟩ := hI2
  have g0 := iL.2.2 (0, .ref b) (by simp)
  have g1 := iL.2.2 (1, .ref (adx 0)) (by simp)
  have g2 := iL.2.2 (2, .ref (adm 0)) (by simp)
  have g3 := iL.2.2 (3, .int 0) (by simp)
  refine lv_aload_n (pc := 541) (x := adx 0) hE.1 hE.2.1 dL_law_541 rfl g1 ?_
  refine law_arg (pc := 542) hE iX ib iS g0 g3 (i := 1) (by decide) dL_law_542 dL_law_543 dL_law_544 dL_law_545 dL_law_546 ?_
  refine law_cls (pc := 547) (av := [.int (xs 1)]) hE hI hR hp xjx_takes ⟨rfl, rfl, rfl, rfl, rfl⟩ (fun _ => lav_n1) dL_law_547 (kr_37 _ (List.mem_of_getElem? (i := 23) rfl)) (fun a ad1 H1 locs1 ha jP1 iS1 => ?_)
  refine lv_aload_n (pc := 550) (x := adm 0) hE.1 hE.2.1 dL_law_550 rfl g2 ?_
  refine law_arg (pc := 551) hE iX ib iS1 g0 g3 (i := 1) (by decide) dL_law_551 dL_law_552 dL_law_553 dL_law_554 dL_law_555 ?_
  refine law_mod (pc := 556) (av := [.int (xs 1)]) hE hp hR ha jP1 jD iS1 iL.1 ⟨ic, isl⟩ xjm_takes ⟨rfl, rfl, rfl, rfl, rfl⟩ (fun _ => lav_n1) dL_law_556 (kr_38 _ (List.mem_of_getElem? (i := 6) rfl)) (fun a2 ad2 H2 locs2 h2 iS2 => ?_)
  exact law_eqI (pc := 559) hr hlk hE iX ib iS2 iL ⟨ic, isl⟩ h2 dL_law_559 rfl
theorem xjx_best : xmi 80 = some (yX6_best, cX6_best, 6, 4, 8, 1, 1, 0, 0, xt80) := rfl
theorem xjm_best : xmi 209 = some (yX7_best, cX7_best, 7, 4, 9, 1, 1, 0, 0, xt209) := rfl
theorem lc_best (hr : meth.sig.returnType = ret) (hlk : meth.locks = false) (hE : lEnv p l e s m b c D cA xa fm) (hI : lInv s b D cA fm xs adx adm H locs ls cells slots) (hp : ∃ rg, xokR (fun k => xs (k + 1)) rg ∧ xpair false rg 80 209 3 = true) : W p l e room_1 s m #[Value.ref b] below meth c H locs cells slots (lw_Z below #[Value.ref b] s) (F0 m 564 ls []) := by
  obtain ⟨rg, hR, hp⟩ := hp
  have hI2 := hI
  obtain ⟨iP, iD, jP, jD, iN, iS, iL, iX, ib, ic, isl⟩ := hI2
  have g0 := iL.2.2 (0, .ref b) (by simp)
  have g1 := iL.2.2 (1, .ref (adx 0)) (by simp)
  have g2 := iL.2.2 (2, .ref (adm 0)) (by simp)
  have g3 := iL.2.2 (3, .int 0) (by simp)
  refine lv_aload_n (pc := 564) (x := adx 0) hE.1 hE.2.1 dL_law_564 rfl g1 ?_
  refine law_arg (pc := 565) hE iX ib iS g0 g3 (i := 1) (by decide) dL_law_565 dL_law_566 dL_law_567 dL_law_568 dL_law_569 ?_
  refine law_arg (pc := 570) hE iX ib iS g0 g3 (i := 2) (by decide) dL_law_570 dL_law_571 dL_law_572 dL_law_573 dL_law_574 ?_
  refine law_arg (pc := 575) hE iX ib iS g0 g3 (i := 3) (by decide) dL_law_575 dL_law_576 dL_law_577 dL_law_578 dL_law_579 ?_
  refine law_cls (pc := 580) (av := [.int (xs 1), .int (xs 2), .int (xs 3)]) hE hI hR hp xjx_best ⟨rfl, rfl, rfl, rfl, rfl⟩ (fun _ => lav_n3) dL_law_580 (kr_38 _ (List.mem_of_getElem? (i := 11) rfl)) (fun a ad1 H1 locs1 ha jP1 iS1 => ?_)
  refine lv_aload_n (pc := 583) (x := adm 0) hE.1 hE.2.1 dL_law_583 rfl g2 ?_
  refine law_arg (pc := 584) hE iX ib iS1 g0 g3 (i := 1) (by decide) dL_law_584 dL_law_585 dL_law_586 dL_law_587 dL_law_588 ?_
  refine law_arg (pc := 589) hE iX ib iS1 g0 g3 (i := 2) (by decide) dL_law_589 dL_law_590 dL_law_591 dL_law_592 dL_law_593 ?_
  refine law_arg (pc := 594) hE iX ib iS1 g0 g3 (i := 3) (by decide) dL_law_594 dL_law_595 dL_law_596 dL_law_597 dL_law_598 ?_
  refine law_mod (pc := 599) (av := [.int (xs 1), .int (xs 2), .int (xs 3)]) hE hp hR ha jP1 jD iS1 iL.1 ⟨ic, isl⟩ xjm_best ⟨rfl, rfl, rfl, rfl, rfl⟩ (fun _ => lav_n3) dL_law_599 (kr_38 _ (List.mem_of_getElem? (i := 15) rfl)) (fun a2 ad2 H2 locs2 h2 iS2 => ?_)
  exact law_eqI (pc := 602) hr hlk hE iX ib iS2 iL ⟨ic, isl⟩ h2 dL_law_602 rfl
theorem xjx_change : xmi 81 = some (yX6_change, cX6_change, 6, 3, 8, 1, 1, 0, 0, xt81) := rfl
theorem xjm_change : xmi 210 = some (yX7_change, cX7_change, 7, 3, 10, 1, 1, 0, 0, xt210) := rfl
theorem lc_change (hr : meth.sig.returnType = ret) (hlk : meth.locks = false) (hE : lEnv p l e s m b c D cA xa fm) (hI : lInv s b D cA fm xs adx adm H locs ls cells slots) (hp : ∃ rg, xokR (fun k => xs (k + 1)) rg ∧ xpair false rg 81 210 2 = true) : W p l e room_1 s m #[Value.ref b] below meth c H locs cells slots (lw_Z below #[Value.ref b] s) (F0 m 607 ls []) := by
  obtain ⟨rg, hR, hp⟩ := hp
  have hI2 := hI
  obtain ⟨iP, iD, jP, jD, iN, iS, iL, iX, ib, ic, isl⟩ := hI2
  have g0 := iL.2.2 (0, .ref b) (by simp)
  have g1 := iL.2.2 (1, .ref (adx 0)) (by simp)
  have g2 := iL.2.2 (2, .ref (adm 0)) (by simp)
  have g3 := iL.2.2 (3, .int 0) (by simp)
  refine lv_aload_n (pc := 607) (x := adx 0) hE.1 hE.2.1 dL_law_607 rfl g1 ?_
  refine law_arg (pc := 608) hE iX ib iS g0 g3 (i := 1) (by decide) dL_law_608 dL_law_609 dL_law_610 dL_law_611 dL_law_612 ?_
  refine law_arg (pc := 613) hE iX ib iS g0 g3 (i := 2) (by decide) dL_law_613 dL_law_614 dL_law_615 dL_law_616 dL_law_617 ?_
  refine law_cls (pc := 618) (av := [.int (xs 1), .int (xs 2)]) hE hI hR hp xjx_change ⟨rfl, rfl, rfl, rfl, rfl⟩ (fun _ => lav_n2) dL_law_618 (kr_38 _ (List.mem_of_getElem? (i := 23) rfl)) (fun a ad1 H1 locs1 ha jP1 iS1 => ?_)
  refine lv_aload_n (pc := 621) (x := adm 0) hE.1 hE.2.1 dL_law_621 rfl g2 ?_
  refine law_arg (pc := 622) hE iX ib iS1 g0 g3 (i := 1) (by decide) dL_law_622 dL_law_623 dL_law_624 dL_law_625 dL_law_626 ?_
  refine law_arg (pc := 627) hE iX ib iS1 g0 g3 (i := 2) (by decide) dL_law_627 dL_law_628 dL_law_629 dL_law_630 dL_law_631 ?_
  refine law_mod (pc := 632) (av := [.int (xs 1), .int (xs 2)]) hE hp hR ha jP1 jD iS1 iL.1 ⟨ic, isl⟩ xjm_change ⟨rfl, rfl, rfl, rfl, rfl⟩ (fun _ => lav_n2) dL_law_632 (kr_39 _ (List.mem_of_getElem? (i := 7) rfl)) (fun a2 ad2 H2 locs2 h2 iS2 => ?_)
  exact law_eqI (pc := 635) hr hlk hE iX ib iS2 iL ⟨ic, isl⟩ h2 dL_law_635 rfl
theorem xjx_split : xmi 82 = some (yX6_split, cX6_split, 6, 3, 8, 1, 1, 0, 0, xt82) := rfl
theorem xjm_split : xmi 213 = some (yX7_split, cX7_split, 7, 3, 7, 1, 1, 0, 0, xt213) := rfl
theorem lc_split (hr : meth.sig.returnType = ret) (hlk : meth.locks = false) (hE : lEnv p l e s m b c D cA xa fm) (hI : lInv s b D cA fm xs adx adm H locs ls cells slots) (hp : ∃ rg, xokR (fun k => xs (k + 1)) rg ∧ xpair false rg 82 213 2 = true) : W p l e room_1 s m #[Value.ref b] below meth c H locs cells slots (lw_Z below #[Value.ref b] s) (F0 m 640 ls []) := by
  obtain ⟨rg, hR, hp⟩ := hp
  have hI2 := hI
  obtain ⟨iP, iD, jP, jD, iN, iS, iL, iX, ib, ic, isl⟩ := hI2
  have g0 := iL.2.2 (0, .ref b) (by simp)
  have g1 := iL.2.2 (1, .ref (adx 0)) (by simp)
  have g2 := iL.2.2 (2, .ref (adm 0)) (by simp)
  have g3 := iL.2.2 (3, .int 0) (by simp)
  refine lv_aload_n (pc := 640) (x := adx 0) hE.1 hE.2.1 dL_law_640 rfl g1 ?_
  refine law_arg (pc := 641) hE iX ib iS g0 g3 (i := 1) (by decide) dL_law_641 dL_law_642 dL_law_643 dL_law_644 dL_law_645 ?_
  refine law_arg (pc := 646) hE iX ib iS g0 g3 (i := 2) (by decide) dL_law_646 dL_law_647 dL_law_648 dL_law_649 dL_law_650 ?_
  refine law_cls (pc := 651) (av := [.int (xs 1), .int (xs 2)]) hE hI hR hp xjx_split ⟨rfl, rfl, rfl, rfl, rfl⟩ (fun _ => lav_n2) dL_law_651 (kr_39 _ (List.mem_of_getElem? (i := 11) rfl)) (fun a ad1 H1 locs1 ha jP1 iS1 => ?_)
  refine lv_aload_n (pc := 654) (x := adm 0) hE.1 hE.2.1 dL_law_654 rfl g2 ?_
  refine law_arg (pc := 655) hE iX ib iS1 g0 g3 (i := 1) (by decide) dL_law_655 dL_law_656 dL_law_657 dL_law_658 dL_law_659 ?_
  refine law_arg (pc := 660) hE iX ib iS1 g0 g3 (i := 2) (by decide) dL_law_660 dL_law_661 dL_law_662 dL_law_663 dL_law_664 ?_
  refine law_mod (pc := 665) (av := [.int (xs 1), .int (xs 2)]) hE hp hR ha jP1 jD iS1 iL.1 ⟨ic, isl⟩ xjm_split ⟨rfl, rfl, rfl, rfl, rfl⟩ (fun _ => lav_n2) dL_law_665 (kr_39 _ (List.mem_of_getElem? (i := 15) rfl)) (fun a2 ad2 H2 locs2 h2 iS2 => ?_)
  exact law_eqI (pc := 668) hr hlk hE iX ib iS2 iL ⟨ic, isl⟩ h2 dL_law_668 rfl
theorem xjx_missed : xmi 83 = some (yX6_missed, cX6_missed, 6, 2, 6, 1, 1, 0, 0, xt83) := rfl
theorem xjm_missed : xmi 214 = some (yX7_missed, cX7_missed, 7, 2, 6, 1, 1, 0, 0, xt214) := rfl
theorem lc_missed (hr : meth.sig.returnType = ret) (hlk : meth.locks = false) (hE : lEnv p l e s m b c D cA xa fm) (hI : lInv s b D cA fm xs adx adm H locs ls cells slots) (hp : ∃ rg, xokR (fun k => xs (k + 1)) rg ∧ xpair false rg 83 214 1 = true) : W p l e room_1 s m #[Value.ref b] below meth c H locs cells slots (lw_Z below #[Value.ref b] s) (F0 m 673 ls []) := by
  obtain ⟨rg, hR, hp⟩ := hp
  have hI2 := hI
  obtain ⟨iP, iD, jP, jD, iN, iS, iL, iX, ib, ic, isl⟩ := hI2
  have g0 := iL.2.2 (0, .ref b) (by simp)
  have g1 := iL.2.2 (1, .ref (adx 0)) (by simp)
  have g2 := iL.2.2 (2, .ref (adm 0)) (by simp)
  have g3 := iL.2.2 (3, .int 0) (by simp)
  refine lv_aload_n (pc := 673) (x := adx 0) hE.1 hE.2.1 dL_law_673 rfl g1 ?_
  refine law_arg (pc := 674) hE iX ib iS g0 g3 (i := 1) (by decide) dL_law_674 dL_law_675 dL_law_676 dL_law_677 dL_law_678 ?_
  refine law_cls (pc := 679) (av := [.int (xs 1)]) hE hI hR hp xjx_missed ⟨rfl, rfl, rfl, rfl, rfl⟩ (fun _ => lav_n1) dL_law_679 (kr_40 _ (List.mem_of_getElem? (i := 4) rfl)) (fun a ad1 H1 locs1 ha jP1 iS1 => ?_)
  refine lv_aload_n (pc := 682) (x := adm 0) hE.1 hE.2.1 dL_law_682 rfl g2 ?_
  refine law_arg (pc := 683) hE iX ib iS1 g0 g3 (i := 1) (by decide) dL_law_683 dL_law_684 dL_law_685 dL_law_686 dL_law_687 ?_
  refine law_mod (pc := 688) (av := [.int (xs 1)]) hE hp hR ha jP1 jD iS1 iL.1 ⟨ic, isl⟩ xjm_missed ⟨rfl, rfl, rfl, rfl, rfl⟩ (fun _ => lav_n1) dL_law_688 (kr_40 _ (List.mem_of_getElem? (i := 8) rfl)) (fun a2 ad2 H2 locs2 h2 iS2 => ?_)
  exact law_eqI (pc := 691) hr hlk hE iX ib iS2 iL ⟨ic, isl⟩ h2 dL_law_691 rfl
theorem xjx_match : xmi 84 = some (yX6_match, cX6_match, 6, 2, 7, 1, 1, 0, 0, xt84) := rfl
theorem xjm_match : xmi 215 = some (yX7_match, cX7_match, 7, 2, 7, 1, 1, 0, 0, xt215) := rfl
theorem lc_match (hr : meth.sig.returnType = ret) (hlk : meth.locks = false) (hE : lEnv p l e s m b c D cA xa fm) (hI : lInv s b D cA fm xs adx adm H locs ls cells slots) (hp : ∃ rg, xokR (fun k => xs (k + 1)) rg ∧ xpair false rg 84 215 1 = true) : W p l e room_1 s m #[Value.ref b] below meth c H locs cells slots (lw_Z below #[Value.ref b] s) (F0 m 696 ls []) := by
  obtain ⟨rg, hR, hp⟩ := hp
  have hI2 := hI
  obtain ⟨iP, iD, jP, jD, iN, iS, iL, iX, ib, ic, isl⟩ := hI2
  have g0 := iL.2.2 (0, .ref b) (by simp)
  have g1 := iL.2.2 (1, .ref (adx 0)) (by simp)
  have g2 := iL.2.2 (2, .ref (adm 0)) (by simp)
  have g3 := iL.2.2 (3, .int 0) (by simp)
  refine lv_aload_n (pc := 696) (x := adx 0) hE.1 hE.2.1 dL_law_696 rfl g1 ?_
  refine law_arg (pc := 697) hE iX ib iS g0 g3 (i := 1) (by decide) dL_law_697 dL_law_698 dL_law_699 dL_law_700 dL_law_701 ?_
  refine law_cls (pc := 702) (av := [.int (xs 1)]) hE hI hR hp xjx_match ⟨rfl, rfl, rfl, rfl, rfl⟩ (fun _ => lav_n1) dL_law_702 (kr_40 _ (List.mem_of_getElem? (i := 12) rfl)) (fun a ad1 H1 locs1 ha jP1 iS1 => ?_)
  refine lv_aload_n (pc := 705) (x := adm 0) hE.1 hE.2.1 dL_law_705 rfl g2 ?_
  refine law_arg (pc := 706) hE iX ib iS1 g0 g3 (i := 1) (by decide) dL_law_706 dL_law_707 dL_law_708 dL_law_709 dL_law_710 ?_
  refine law_mod (pc := 711) (av := [.int (xs 1)]) hE hp hR ha jP1 jD iS1 iL.1 ⟨ic, isl⟩ xjm_match ⟨rfl, rfl, rfl, rfl, rfl⟩ (fun _ => lav_n1) dL_law_711 (kr_40 _ (List.mem_of_getElem? (i := 21) rfl)) (fun a2 ad2 H2 locs2 h2 iS2 => ?_)
  exact law_eqI (pc := 714) hr hlk hE iX ib iS2 iL ⟨ic, isl⟩ h2 dL_law_714 rfl
theorem xjx_tells : xmi 85 = some (yX6_tells, cX6_tells, 6, 4, 5, 1, 1, 0, 0, xt85) := rfl
theorem xjm_tells : xmi 218 = some (yX7_tells, cX7_tells, 7, 4, 9, 1, 1, 0, 0, xt218) := rfl
theorem lc_tells (hr : meth.sig.returnType = ret) (hlk : meth.locks = false) (hE : lEnv p l e s m b c D cA xa fm) (hI : lInv s b D cA fm xs adx adm H locs ls cells slots) (hp : ∃ rg, xokR (fun k => xs (k + 1)) rg ∧ xpair false rg 85 218 3 = true) : W p l e room_1 s m #[Value.ref b] below meth c H locs cells slots (lw_Z below #[Value.ref b] s) (F0 m 719 ls []) := by
  obtain ⟨rg, hR, hp⟩ := hp
  have hI2 := hI
  obtain ⟨iP, iD, jP, jD, iN, iS, iL, iX, ib, ic, isl⟩ := hI2
  have g0 := iL.2.2 (0, .ref b) (by simp)
  have g1 := iL.2.2 (1, .ref (adx 0)) (by simp)
  have g2 := iL.2.2 (2, .ref (adm 0)) (by simp)
  have g3 := iL.2.2 (3, .int 0) (by simp)
  refine lv_aload_n (pc := 719) (x := adx 0) hE.1 hE.2.1 dL_law_719 rfl g1 ?_
  refine law_arg (pc := 720) hE iX ib iS g0 g3 (i := 1) (by decide) dL_law_720 dL_law_721 dL_law_722 dL_law_723 dL_law_724 ?_
  refine law_arg (pc := 725) hE iX ib iS g0 g3 (i := 2) (by decide) dL_law_725 dL_law_726 dL_law_727 dL_law_728 dL_law_729 ?_
  refine law_arg (pc := 730) hE iX ib iS g0 g3 (i := 3) (by decide) dL_law_730 dL_law_731 dL_law_732 dL_law_733 dL_law_734 ?_
  refine law_cls (pc := 735) (av := [.int (xs 1), .int (xs 2), .int (xs 3)]) hE hI hR hp xjx_tells ⟨rfl, rfl, rfl, rfl, rfl⟩ (fun _ => lav_n3) dL_law_735 (kr_41 _ (List.mem_of_getElem? (i := 1) rfl)) (fun a ad1 H1 locs1 ha jP1 iS1 => ?_)
  refine lv_aload_n (pc := 738) (x := adm 0) hE.1 hE.2.1 dL_law_738 rfl g2 ?_
  refine law_arg (pc := 739) hE iX ib iS1 g0 g3 (i := 1) (by decide) dL_law_739 dL_law_740 dL_law_741 dL_law_742 dL_law_743 ?_
  refine law_arg (pc := 744) hE iX ib iS1 g0 g3 (i := 2) (by decide) dL_law_744 dL_law_745 dL_law_746 dL_law_747 dL_law_748 ?_
  refine law_arg (pc := 749) hE iX ib iS1 g0 g3 (i := 3) (by decide) dL_law_749 dL_law_750 dL_law_751 dL_law_752 dL_law_753 ?_
  refine law_mod (pc := 754) (av := [.int (xs 1), .int (xs 2), .int (xs 3)]) hE hp hR ha jP1 jD iS1 iL.1 ⟨ic, isl⟩ xjm_tells ⟨rfl, rfl, rfl, rfl, rfl⟩ (fun _ => lav_n3) dL_law_754 (kr_42 _ (List.mem_of_getElem? (i := 23) rfl)) (fun a2 ad2 H2 locs2 h2 iS2 => ?_)
  exact law_eqI (pc := 757) hr hlk hE iX ib iS2 iL ⟨ic, isl⟩ h2 dL_law_757 rfl
theorem xjx_film : xmi 86 = some (yX6_film, cX6_film, 6, 3, 5, 1, 1, 0, 0, xt86) := rfl
theorem xjm_film : xmi 219 = some (yX7_film, cX7_film, 7, 3, 4, 1, 1, 0, 0, xt219) := rfl
theorem lc_film (hr : meth.sig.returnType = ret) (hlk : meth.locks = false) (hE : lEnv p l e s m b c D cA xa fm) (hI : lInv s b D cA fm xs adx adm H locs ls cells slots) (hp : ∃ rg, xokR (fun k => xs (k + 1)) rg ∧ xpair false rg 86 219 2 = true) : W p l e room_1 s m #[Value.ref b] below meth c H locs cells slots (lw_Z below #[Value.ref b] s) (F0 m 762 ls []) := by
  obtain ⟨rg, hR, hp⟩ := hp
  have hI2 := hI
  obtain ⟨iP, iD, jP, jD, iN, iS, iL, iX, ib, ic, isl⟩ := hI2
  have g0 := iL.2.2 (0, .ref b) (by simp)
  have g1 := iL.2.2 (1, .ref (adx 0)) (by simp)
  have g2 := iL.2.2 (2, .ref (adm 0)) (by simp)
  have g3 := iL.2.2 (3, .int 0) (by simp)
  refine lv_aload_n (pc := 762) (x := adx 0) hE.1 hE.2.1 dL_law_762 rfl g1 ?_
  refine law_arg (pc := 763) hE iX ib iS g0 g3 (i := 1) (by decide) dL_law_763 dL_law_764 dL_law_765 dL_law_766 dL_law_767 ?_
  refine law_arg (pc := 768) hE iX ib iS g0 g3 (i := 2) (by decide) dL_law_768 dL_law_769 dL_law_770 dL_law_771 dL_law_772 ?_
  refine law_cls (pc := 773) (av := [.int (xs 1), .int (xs 2)]) hE hI hR hp xjx_film ⟨rfl, rfl, rfl, rfl, rfl⟩ (fun _ => lav_n2) dL_law_773 (kr_43 _ (List.mem_of_getElem? (i := 15) rfl)) (fun a ad1 H1 locs1 ha jP1 iS1 => ?_)
  refine lv_aload_n (pc := 776) (x := adm 0) hE.1 hE.2.1 dL_law_776 rfl g2 ?_
  refine law_arg (pc := 777) hE iX ib iS1 g0 g3 (i := 1) (by decide) dL_law_777 dL_law_778 dL_law_779 dL_law_780 dL_law_781 ?_
  refine law_arg (pc := 782) hE iX ib iS1 g0 g3 (i := 2) (by decide) dL_law_782 dL_law_783 dL_law_784 dL_law_785 dL_law_786 ?_
  refine law_mod (pc := 787) (av := [.int (xs 1), .int (xs 2)]) hE hp hR ha jP1 jD iS1 iL.1 ⟨ic, isl⟩ xjm_film ⟨rfl, rfl, rfl, rfl, rfl⟩ (fun _ => lav_n2) dL_law_787 (kr_44 _ (List.mem_of_getElem? (i := 3) rfl)) (fun a2 ad2 H2 locs2 h2 iS2 => ?_)
  exact law_eqI (pc := 790) hr hlk hE iX ib iS2 iL ⟨ic, isl⟩ h2 dL_law_790 rfl
theorem xjx_drawn : xmi 87 = some (yX6_drawn, cX6_drawn, 6, 3, 3, 1, 1, 0, 0, xt87) := rfl
theorem xjm_drawn : xmi 221 = some (yX7_drawn, cX7_drawn, 7, 3, 3, 1, 1, 0, 0, xt221) := rfl
theorem lc_drawn (hr : meth.sig.returnType = ret) (hlk : meth.locks = false) (hE : lEnv p l e s m b c D cA xa fm) (hI : lInv s b D cA fm xs adx adm H locs ls cells slots) (hp : ∃ rg, xokR (fun k => xs (k + 1)) rg ∧ xpair false rg 87 221 2 = true) : W p l e room_1 s m #[Value.ref b] below meth c H locs cells slots (lw_Z below #[Value.ref b] s) (F0 m 795 ls []) := by
  obtain ⟨rg, hR, hp⟩ := hp
  have hI2 := hI
  obtain ⟨iP, iD, jP, jD, iN, iS, iL, iX, ib, ic, isl⟩ := hI2
  have g0 := iL.2.2 (0, .ref b) (by simp)
  have g1 := iL.2.2 (1, .ref (adx 0)) (by simp)
  have g2 := iL.2.2 (2, .ref (adm 0)) (by simp)
  have g3 := iL.2.2 (3, .int 0) (by simp)
  refine lv_aload_n (pc := 795) (x := adx 0) hE.1 hE.2.1 dL_law_795 rfl g1 ?_
  refine law_arg (pc := 796) hE iX ib iS g0 g3 (i := 1) (by decide) dL_law_796 dL_law_797 dL_law_798 dL_law_799 dL_law_800 ?_
  refine law_arg (pc := 801) hE iX ib iS g0 g3 (i := 2) (by decide) dL_law_801 dL_law_802 dL_law_803 dL_law_804 dL_law_805 ?_
  refine law_cls (pc := 806) (av := [.int (xs 1), .int (xs 2)]) hE hI hR hp xjx_drawn ⟨rfl, rfl, rfl, rfl, rfl⟩ (fun _ => lav_n2) dL_law_806 (kr_44 _ (List.mem_of_getElem? (i := 11) rfl)) (fun a ad1 H1 locs1 ha jP1 iS1 => ?_)
  refine lv_aload_n (pc := 809) (x := adm 0) hE.1 hE.2.1 dL_law_809 rfl g2 ?_
  refine law_arg (pc := 810) hE iX ib iS1 g0 g3 (i := 1) (by decide) dL_law_810 dL_law_811 dL_law_812 dL_law_813 dL_law_814 ?_
  refine law_arg (pc := 815) hE iX ib iS1 g0 g3 (i := 2) (by decide) dL_law_815 dL_law_816 dL_law_817 dL_law_818 dL_law_819 ?_
  refine law_mod (pc := 820) (av := [.int (xs 1), .int (xs 2)]) hE hp hR ha jP1 jD iS1 iL.1 ⟨ic, isl⟩ xjm_drawn ⟨rfl, rfl, rfl, rfl, rfl⟩ (fun _ => lav_n2) dL_law_820 (kr_44 _ (List.mem_of_getElem? (i := 20) rfl)) (fun a2 ad2 H2 locs2 h2 iS2 => ?_)
  exact law_eqI (pc := 823) hr hlk hE iX ib iS2 iL ⟨ic, isl⟩ h2 dL_law_823 rfl
theorem xjx_chance : xmi 88 = some (yX6_chance, cX6_chance, 6, 5, 7, 2, 1, 0, 0, xt88) := rfl
theorem xjm_chance : xmi 222 = some (yX7_chance, cX7_chance, 7, 5, 13, 2, 1, 0, 0, xt222) := rfl
theorem lc_chance (hr : meth.sig.returnType = ret) (hlk : meth.locks = false) (hE : lEnv p l e s m b c D cA xa fm) (hI : lInv s b D cA fm xs adx adm H locs ls cells slots) (hp : ∃ rg, xokR (fun k => xs (k + 1)) rg ∧ xpair true rg 88 222 4 = true) : W p l e room_1 s m #[Value.ref b] below meth c H locs cells slots (lw_Z below #[Value.ref b] s) (F0 m 828 ls []) := by
  obtain ⟨rg, hR, hp⟩ := hp
  have hI2 := hI
  obtain ⟨iP, iD, jP, jD, iN, iS, iL, iX, ib, ic, isl⟩ := hI2
  have g0 := iL.2.2 (0, .ref b) (by simp)
  have g1 := iL.2.2 (1, .ref (adx 0)) (by simp)
  have g2 := iL.2.2 (2, .ref (adm 0)) (by simp)
  have g3 := iL.2.2 (3, .int 0) (by simp)
  refine lv_aload_n (pc := 828) (x := adx 0) hE.1 hE.2.1 dL_law_828 rfl g1 ?_
  refine law_arg (pc := 829) hE iX ib iS g0 g3 (i := 1) (by decide) dL_law_829 dL_law_830 dL_law_831 dL_law_832 dL_law_833 ?_
  refine law_arg (pc := 834) hE iX ib iS g0 g3 (i := 2) (by decide) dL_law_834 dL_law_835 dL_law_836 dL_law_837 dL_law_838 ?_
  refine law_arg (pc := 839) hE iX ib iS g0 g3 (i := 3) (by decide) dL_law_839 dL_law_840 dL_law_841 dL_law_842 dL_law_843 ?_
  refine law_arg (pc := 844) hE iX ib iS g0 g3 (i := 4) (by decide) dL_law_844 dL_law_845 dL_law_846 dL_law_847 dL_law_848 ?_
  refine law_cls (pc := 849) (av := [.int (xs 1), .int (xs 2), .int (xs 3), .int (xs 4)]) hE hI hR hp xjx_chance ⟨rfl, rfl, rfl, rfl, rfl⟩ (fun _ => lav_n4) dL_law_849 (kr_45 _ (List.mem_of_getElem? (i := 5) rfl)) (fun a ad1 H1 locs1 ha jP1 iS1 => ?_)
  refine lv_aload_n (pc := 852) (x := adm 0) hE.1 hE.2.1 dL_law_852 rfl g2 ?_
  refine law_arg (pc := 853) hE iX ib iS1 g0 g3 (i := 1) (by decide) dL_law_853 dL_law_854 dL_law_855 dL_law_856 dL_law_857 ?_
  refine law_arg (pc := 858) hE iX ib iS1 g0 g3 (i := 2) (by decide) dL_law_858 dL_law_859 dL_law_860 dL_law_861 dL_law_862 ?_
  refine law_arg (pc := 863) hE iX ib iS1 g0 g3 (i := 3) (by decide) dL_law_863 dL_law_864 dL_law_865 dL_law_866 dL_law_867 ?_
  refine law_arg (pc := 868) hE iX ib iS1 g0 g3 (i := 4) (by decide) dL_law_868 dL_law_869 dL_law_870 dL_law_871 dL_law_872 ?_
  refine law_mod (pc := 873) (av := [.int (xs 1), .int (xs 2), .int (xs 3), .int (xs 4)]) hE hp hR ha jP1 jD iS1 iL.1 ⟨ic, isl⟩ xjm_chance ⟨rfl, rfl, rfl, rfl, rfl⟩ (fun _ => lav_n4) dL_law_873 (kr_45 _ (List.mem_of_getElem? (i := 14) rfl)) (fun a2 ad2 H2 locs2 h2 iS2 => ?_)
  exact law_eqL (pc := 876) hr hlk hE iX ib iS2 iL ⟨ic, isl⟩ h2 dL_law_876 dL_law_877 rfl
theorem xjx_image : xmi 89 = some (yX6_image, cX6_image, 6, 1, 1, 1, 1, 0, 0, xt89) := rfl
theorem xjm_image : xmi 223 = some (yX7_image, cX7_image, 7, 1, 2, 1, 1, 0, 0, xt223) := rfl
theorem lc_image (hr : meth.sig.returnType = ret) (hlk : meth.locks = false) (hE : lEnv p l e s m b c D cA xa fm) (hI : lInv s b D cA fm xs adx adm H locs ls cells slots) (hp : ∃ rg, xokR (fun k => xs (k + 1)) rg ∧ xpair false rg 89 223 0 = true) : W p l e room_1 s m #[Value.ref b] below meth c H locs cells slots (lw_Z below #[Value.ref b] s) (F0 m 882 ls []) := by
  obtain ⟨rg, hR, hp⟩ := hp
  have hI2 := hI
  obtain ⟨iP, iD, jP, jD, iN, iS, iL, iX, ib, ic, isl⟩ := hI2
  have g0 := iL.2.2 (0, .ref b) (by simp)
  have g1 := iL.2.2 (1, .ref (adx 0)) (by simp)
  have g2 := iL.2.2 (2, .ref (adm 0)) (by simp)
  have g3 := iL.2.2 (3, .int 0) (by simp)
  refine lv_aload_n (pc := 882) (x := adx 0) hE.1 hE.2.1 dL_law_882 rfl g1 ?_
  refine law_cls (pc := 883) (av := []) hE hI hR hp xjx_image ⟨rfl, rfl, rfl, rfl, rfl⟩ (fun _ => lav_0) dL_law_883 (kr_45 _ (List.mem_of_getElem? (i := 19) rfl)) (fun a ad1 H1 locs1 ha jP1 iS1 => ?_)
  refine lv_aload_n (pc := 886) (x := adm 0) hE.1 hE.2.1 dL_law_886 rfl g2 ?_
  refine law_mod (pc := 887) (av := []) hE hp hR ha jP1 jD iS1 iL.1 ⟨ic, isl⟩ xjm_image ⟨rfl, rfl, rfl, rfl, rfl⟩ (fun _ => lav_0) dL_law_887 (kr_46 _ (List.mem_of_getElem? (i := 0) rfl)) (fun a2 ad2 H2 locs2 h2 iS2 => ?_)
  exact law_eqI (pc := 890) hr hlk hE iX ib iS2 iL ⟨ic, isl⟩ h2 dL_law_890 rfl
theorem xjx_back : xmi 90 = some (yX6_back, cX6_back, 6, 1, 1, 1, 1, 0, 0, xt90) := rfl
theorem xjm_back : xmi 224 = some (yX7_back, cX7_back, 7, 1, 2, 1, 1, 0, 0, xt224) := rfl
theorem lc_back (hr : meth.sig.returnType = ret) (hlk : meth.locks = false) (hE : lEnv p l e s m b c D cA xa fm) (hI : lInv s b D cA fm xs adx adm H locs ls cells slots) (hp : ∃ rg, xokR (fun k => xs (k + 1)) rg ∧ xpair false rg 90 224 0 = true) : W p l e room_1 s m #[Value.ref b] below meth c H locs cells slots (lw_Z below #[Value.ref b] s) (F0 m 895 ls []) := by
  obtain ⟨rg, hR, hp⟩ := hp
  have hI2 := hI
  obtain ⟨iP, iD, jP, jD, iN, iS, iL, iX, ib, ic, isl⟩ := hI2
  have g0 := iL.2.2 (0, .ref b) (by simp)
  have g1 := iL.2.2 (1, .ref (adx 0)) (by simp)
  have g2 := iL.2.2 (2, .ref (adm 0)) (by simp)
  have g3 := iL.2.2 (3, .int 0) (by simp)
  refine lv_aload_n (pc := 895) (x := adx 0) hE.1 hE.2.1 dL_law_895 rfl g1 ?_
  refine law_cls (pc := 896) (av := []) hE hI hR hp xjx_back ⟨rfl, rfl, rfl, rfl, rfl⟩ (fun _ => lav_0) dL_law_896 (kr_46 _ (List.mem_of_getElem? (i := 7) rfl)) (fun a ad1 H1 locs1 ha jP1 iS1 => ?_)
  refine lv_aload_n (pc := 899) (x := adm 0) hE.1 hE.2.1 dL_law_899 rfl g2 ?_
  refine law_mod (pc := 900) (av := []) hE hp hR ha jP1 jD iS1 iL.1 ⟨ic, isl⟩ xjm_back ⟨rfl, rfl, rfl, rfl, rfl⟩ (fun _ => lav_0) dL_law_900 (kr_46 _ (List.mem_of_getElem? (i := 11) rfl)) (fun a2 ad2 H2 locs2 h2 iS2 => ?_)
  exact law_eqI (pc := 903) hr hlk hE iX ib iS2 iL ⟨ic, isl⟩ h2 dL_law_903 rfl
theorem xjx_count : xmi 91 = some (yX6_count, cX6_count, 6, 2, 2, 1, 1, 0, 0, xt91) := rfl
theorem xjm_count : xmi 225 = some (yX7_count, cX7_count, 7, 2, 4, 1, 1, 0, 0, xt225) := rfl
theorem lc_count (hr : meth.sig.returnType = ret) (hlk : meth.locks = false) (hE : lEnv p l e s m b c D cA xa fm) (hI : lInv s b D cA fm xs adx adm H locs ls cells slots) (hp : ∃ rg, xokR (fun k => xs (k + 1)) rg ∧ xpair false rg 91 225 1 = true) : W p l e room_1 s m #[Value.ref b] below meth c H locs cells slots (lw_Z below #[Value.ref b] s) (F0 m 908 ls []) := by
  obtain ⟨rg, hR, hp⟩ := hp
  have hI2 := hI
  obtain ⟨iP, iD, jP, jD, iN, iS, iL, iX, ib, ic, isl⟩ := hI2
  have g0 := iL.2.2 (0, .ref b) (by simp)
  have g1 := iL.2.2 (1, .ref (adx 0)) (by simp)
  have g2 := iL.2.2 (2, .ref (adm 0)) (by simp)
  have g3 := iL.2.2 (3, .int 0) (by simp)
  refine lv_aload_n (pc := 908) (x := adx 0) hE.1 hE.2.1 dL_law_908 rfl g1 ?_
  refine law_arg (pc := 909) hE iX ib iS g0 g3 (i := 1) (by decide) dL_law_909 dL_law_910 dL_law_911 dL_law_912 dL_law_913 ?_
  refine law_cls (pc := 914) (av := [.int (xs 1)]) hE hI hR hp xjx_count ⟨rfl, rfl, rfl, rfl, rfl⟩ (fun _ => lav_n1) dL_law_914 (kr_46 _ (List.mem_of_getElem? (i := 15) rfl)) (fun a ad1 H1 locs1 ha jP1 iS1 => ?_)
  refine lv_aload_n (pc := 917) (x := adm 0) hE.1 hE.2.1 dL_law_917 rfl g2 ?_
  refine law_arg (pc := 918) hE iX ib iS1 g0 g3 (i := 1) (by decide) dL_law_918 dL_law_919 dL_law_920 dL_law_921 dL_law_922 ?_
  refine law_mod (pc := 923) (av := [.int (xs 1)]) hE hp hR ha jP1 jD iS1 iL.1 ⟨ic, isl⟩ xjm_count ⟨rfl, rfl, rfl, rfl, rfl⟩ (fun _ => lav_n1) dL_law_923 (kr_46 _ (List.mem_of_getElem? (i := 23) rfl)) (fun a2 ad2 H2 locs2 h2 iS2 => ?_)
  exact law_eqI (pc := 926) hr hlk hE iX ib iS2 iL ⟨ic, isl⟩ h2 dL_law_926 rfl
theorem xjx_sheet : xmi 92 = some (yX6_sheet, cX6_sheet, 6, 4, 4, 1, 1, 0, 0, xt92) := rfl
theorem xjm_sheet : xmi 227 = some (yX7_sheet, cX7_sheet, 7, 4, 5, 1, 1, 0, 0, xt227) := rfl
theorem lc_sheet (hr : meth.sig.returnType = ret) (hlk : meth.locks = false) (hE : lEnv p l e s m b c D cA xa fm) (hI : lInv s b D cA fm xs adx adm H locs ls cells slots) (hp : ∃ rg, xokR (fun k => xs (k + 1)) rg ∧ xpair false rg 92 227 3 = true) : W p l e room_1 s m #[Value.ref b] below meth c H locs cells slots (lw_Z below #[Value.ref b] s) (F0 m 931 ls []) := by
  obtain ⟨rg, hR, hp⟩ := hp
  have hI2 := hI
  obtain ⟨iP, iD, jP, jD, iN, iS, iL, iX, ib, ic, isl⟩ := hI2
  have g0 := iL.2.2 (0, .ref b) (by simp)
  have g1 := iL.2.2 (1, .ref (adx 0)) (by simp)
  have g2 := iL.2.2 (2, .ref (adm 0)) (by simp)
  have g3 := iL.2.2 (3, .int 0) (by simp)
  refine lv_aload_n (pc := 931) (x := adx 0) hE.1 hE.2.1 dL_law_931 rfl g1 ?_
  refine law_arg (pc := 932) hE iX ib iS g0 g3 (i := 1) (by decide) dL_law_932 dL_law_933 dL_law_934 dL_law_935 dL_law_936 ?_
  refine law_arg (pc := 937) hE iX ib iS g0 g3 (i := 2) (by decide) dL_law_937 dL_law_938 dL_law_939 dL_law_940 dL_law_941 ?_
  refine law_arg (pc := 942) hE iX ib iS g0 g3 (i := 3) (by decide) dL_law_942 dL_law_943 dL_law_944 dL_law_945 dL_law_946 ?_
  refine law_cls (pc := 947) (av := [.int (xs 1), .int (xs 2), .int (xs 3)]) hE hI hR hp xjx_sheet ⟨rfl, rfl, rfl, rfl, rfl⟩ (fun _ => lav_n3) dL_law_947 (kr_47 _ (List.mem_of_getElem? (i := 3) rfl)) (fun a ad1 H1 locs1 ha jP1 iS1 => ?_)
  refine lv_aload_n (pc := 950) (x := adm 0) hE.1 hE.2.1 dL_law_950 rfl g2 ?_
  refine law_arg (pc := 951) hE iX ib iS1 g0 g3 (i := 1) (by decide) dL_law_951 dL_law_952 dL_law_953 dL_law_954 dL_law_955 ?_
  refine law_arg (pc := 956) hE iX ib iS1 g0 g3 (i := 2) (by decide) dL_law_956 dL_law_957 dL_law_958 dL_law_959 dL_law_960 ?_
  refine law_arg (pc := 961) hE iX ib iS1 g0 g3 (i := 3) (by decide) dL_law_961 dL_law_962 dL_law_963 dL_law_964 dL_law_965 ?_
  refine law_mod (pc := 966) (av := [.int (xs 1), .int (xs 2), .int (xs 3)]) hE hp hR ha jP1 jD iS1 iL.1 ⟨ic, isl⟩ xjm_sheet ⟨rfl, rfl, rfl, rfl, rfl⟩ (fun _ => lav_n3) dL_law_966 (kr_47 _ (List.mem_of_getElem? (i := 10) rfl)) (fun a2 ad2 H2 locs2 h2 iS2 => ?_)
  exact law_eqI (pc := 969) hr hlk hE iX ib iS2 iL ⟨ic, isl⟩ h2 dL_law_969 rfl
theorem xjx_cell : xmi 93 = some (yX6_cell, cX6_cell, 6, 4, 5, 1, 1, 0, 0, xt93) := rfl
theorem xjm_cell : xmi 228 = some (yX7_cell, cX7_cell, 7, 4, 4, 1, 1, 0, 0, xt228) := rfl
theorem lc_cell (hr : meth.sig.returnType = ret) (hlk : meth.locks = false) (hE : lEnv p l e s m b c D cA xa fm) (hI : lInv s b D cA fm xs adx adm H locs ls cells slots) (hp : ∃ rg, xokR (fun k => xs (k + 1)) rg ∧ xpair false rg 93 228 3 = true) : W p l e room_1 s m #[Value.ref b] below meth c H locs cells slots (lw_Z below #[Value.ref b] s) (F0 m 974 ls []) := by
  obtain ⟨rg, hR, hp⟩ := hp
  have hI2 := hI
  obtain ⟨iP, iD, jP, jD, iN, iS, iL, iX, ib, ic, isl⟩ := hI2
  have g0 := iL.2.2 (0, .ref b) (by simp)
  have g1 := iL.2.2 (1, .ref (adx 0)) (by simp)
  have g2 := iL.2.2 (2, .ref (adm 0)) (by simp)
  have g3 := iL.2.2 (3, .int 0) (by simp)
  refine lv_aload_n (pc := 974) (x := adx 0) hE.1 hE.2.1 dL_law_974 rfl g1 ?_
  refine law_arg (pc := 975) hE iX ib iS g0 g3 (i := 1) (by decide) dL_law_975 dL_law_976 dL_law_977 dL_law_978 dL_law_979 ?_
  refine law_arg (pc := 980) hE iX ib iS g0 g3 (i := 2) (by decide) dL_law_980 dL_law_981 dL_law_982 dL_law_983 dL_law_984 ?_
  refine law_arg (pc := 985) hE iX ib iS g0 g3 (i := 3) (by decide) dL_law_985 dL_law_986 dL_law_987 dL_law_988 dL_law_989 ?_
  refine law_cls (pc := 990) (av := [.int (xs 1), .int (xs 2), .int (xs 3)]) hE hI hR hp xjx_cell ⟨rfl, rfl, rfl, rfl, rfl⟩ (fun _ => lav_n3) dL_law_990 (kr_47 _ (List.mem_of_getElem? (i := 11) rfl)) (fun a ad1 H1 locs1 ha jP1 iS1 => ?_)
  refine lv_aload_n (pc := 993) (x := adm 0) hE.1 hE.2.1 dL_law_993 rfl g2 ?_
  refine law_arg (pc := 994) hE iX ib iS1 g0 g3 (i := 1) (by decide) dL_law_994 dL_law_995 dL_law_996 dL_law_997 dL_law_998 ?_
  refine law_arg (pc := 999) hE iX ib iS1 g0 g3 (i := 2) (by decide) dL_law_999 dL_law_1000 dL_law_1001 dL_law_1002 dL_law_1003 ?_
  refine law_arg (pc := 1004) hE iX ib iS1 g0 g3 (i := 3) (by decide) dL_law_1004 dL_law_1005 dL_law_1006 dL_law_1007 dL_law_1008 ?_
  refine law_mod (pc := 1009) (av := [.int (xs 1), .int (xs 2), .int (xs 3)]) hE hp hR ha jP1 jD iS1 iL.1 ⟨ic, isl⟩ xjm_cell ⟨rfl, rfl, rfl, rfl, rfl⟩ (fun _ => lav_n3) dL_law_1009 (kr_47 _ (List.mem_of_getElem? (i := 19) rfl)) (fun a2 ad2 H2 locs2 h2 iS2 => ?_)
  exact law_eqI (pc := 1012) hr hlk hE iX ib iS2 iL ⟨ic, isl⟩ h2 dL_law_1012 rfl
theorem xjx_copy : xmi 94 = some (yX6_copy, cX6_copy, 6, 6, 8, 1, 1, 0, 0, xt94) := rfl
theorem xjm_copy : xmi 229 = some (yX7_copy, cX7_copy, 7, 6, 9, 1, 1, 0, 0, xt229) := rfl
theorem lc_copy (hr : meth.sig.returnType = ret) (hlk : meth.locks = false) (hE : lEnv p l e s m b c D cA xa fm) (hI : lInv s b D cA fm xs adx adm H locs ls cells slots) (hp : ∃ rg, xokR (fun k => xs (k + 1)) rg ∧ xpair false rg 94 229 5 = true) : W p l e room_1 s m #[Value.ref b] below meth c H locs cells slots (lw_Z below #[Value.ref b] s) (F0 m 1017 ls []) := by
  obtain ⟨rg, hR, hp⟩ := hp
  have hI2 := hI
  obtain ⟨iP, iD, jP, jD, iN, iS, iL, iX, ib, ic, isl⟩ := hI2
  have g0 := iL.2.2 (0, .ref b) (by simp)
  have g1 := iL.2.2 (1, .ref (adx 0)) (by simp)
  have g2 := iL.2.2 (2, .ref (adm 0)) (by simp)
  have g3 := iL.2.2 (3, .int 0) (by simp)
  refine lv_aload_n (pc := 1017) (x := adx 0) hE.1 hE.2.1 dL_law_1017 rfl g1 ?_
  refine law_arg (pc := 1018) hE iX ib iS g0 g3 (i := 1) (by decide) dL_law_1018 dL_law_1019 dL_law_1020 dL_law_1021 dL_law_1022 ?_
  refine law_arg (pc := 1023) hE iX ib iS g0 g3 (i := 2) (by decide) dL_law_1023 dL_law_1024 dL_law_1025 dL_law_1026 dL_law_1027 ?_
  refine law_arg (pc := 1028) hE iX ib iS g0 g3 (i := 3) (by decide) dL_law_1028 dL_law_1029 dL_law_1030 dL_law_1031 dL_law_1032 ?_
  refine law_arg (pc := 1033) hE iX ib iS g0 g3 (i := 4) (by decide) dL_law_1033 dL_law_1034 dL_law_1035 dL_law_1036 dL_law_1037 ?_
  refine law_arg (pc := 1038) hE iX ib iS g0 g3 (i := 5) (by decide) dL_law_1038 dL_law_1039 dL_law_1040 dL_law_1041 dL_law_1042 ?_
  refine law_cls (pc := 1043) (av := [.int (xs 1), .int (xs 2), .int (xs 3), .int (xs 4), .int (xs 5)]) hE hI hR hp xjx_copy ⟨rfl, rfl, rfl, rfl, rfl⟩ (fun _ => lav_n5) dL_law_1043 (kr_47 _ (List.mem_of_getElem? (i := 23) rfl)) (fun a ad1 H1 locs1 ha jP1 iS1 => ?_)
  refine lv_aload_n (pc := 1046) (x := adm 0) hE.1 hE.2.1 dL_law_1046 rfl g2 ?_
  refine law_arg (pc := 1047) hE iX ib iS1 g0 g3 (i := 1) (by decide) dL_law_1047 dL_law_1048 dL_law_1049 dL_law_1050 dL_law_1051 ?_
  refine law_arg (pc := 1052) hE iX ib iS1 g0 g3 (i := 2) (by decide) dL_law_1052 dL_law_1053 dL_law_1054 dL_law_1055 dL_law_1056 ?_
  refine law_arg (pc := 1057) hE iX ib iS1 g0 g3 (i := 3) (by decide) dL_law_1057 dL_law_1058 dL_law_1059 dL_law_1060 dL_law_1061 ?_
  refine law_arg (pc := 1062) hE iX ib iS1 g0 g3 (i := 4) (by decide) dL_law_1062 dL_law_1063 dL_law_1064 dL_law_1065 dL_law_1066 ?_
  refine law_arg (pc := 1067) hE iX ib iS1 g0 g3 (i := 5) (by decide) dL_law_1067 dL_law_1068 dL_law_1069 dL_law_1070 dL_law_1071 ?_
  refine law_mod (pc := 1072) (av := [.int (xs 1), .int (xs 2), .int (xs 3), .int (xs 4), .int (xs 5)]) hE hp hR ha jP1 jD iS1 iL.1 ⟨ic, isl⟩ xjm_copy ⟨rfl, rfl, rfl, rfl, rfl⟩ (fun _ => lav_n5) dL_law_1072 (kr_48 _ (List.mem_of_getElem? (i := 5) rfl)) (fun a2 ad2 H2 locs2 h2 iS2 => ?_)
  exact law_eqI (pc := 1075) hr hlk hE iX ib iS2 iL ⟨ic, isl⟩ h2 dL_law_1075 rfl
theorem xjx_houses : xmi 95 = some (yX6_houses, cX6_houses, 6, 5, 9, 1, 1, 0, 0, xt95) := rfl
theorem xjm_houses : xmi 230 = some (yX7_houses, cX7_houses, 7, 5, 8, 1, 1, 0, 0, xt230) := rfl
theorem lc_houses (hr : meth.sig.returnType = ret) (hlk : meth.locks = false) (hE : lEnv p l e s m b c D cA xa fm) (hI : lInv s b D cA fm xs adx adm H locs ls cells slots) (hp : ∃ rg, xokR (fun k => xs (k + 1)) rg ∧ xpair false rg 95 230 4 = true) : W p l e room_1 s m #[Value.ref b] below meth c H locs cells slots (lw_Z below #[Value.ref b] s) (F0 m 1080 ls []) := by
  obtain ⟨rg, hR, hp⟩ := hp
  have hI2 := hI
  obtain ⟨iP, iD, jP, jD, iN, iS, iL, iX, ib, ic, isl⟩ := hI2
  have g0 := iL.2.2 (0, .ref b) (by simp)
  have g1 := iL.2.2 (1, .ref (adx 0)) (by simp)
  have g2 := iL.2.2 (2, .ref (adm 0)) (by simp)
  have g3 := iL.2.2 (3, .int 0) (by simp)
  refine lv_aload_n (pc := 1080) (x := adx 0) hE.1 hE.2.1 dL_law_1080 rfl g1 ?_
  refine law_arg (pc := 1081) hE iX ib iS g0 g3 (i := 1) (by decide) dL_law_1081 dL_law_1082 dL_law_1083 dL_law_1084 dL_law_1085 ?_
  refine law_arg (pc := 1086) hE iX ib iS g0 g3 (i := 2) (by decide) dL_law_1086 dL_law_1087 dL_law_1088 dL_law_1089 dL_law_1090 ?_
  refine law_arg (pc := 1091) hE iX ib iS g0 g3 (i := 3) (by decide) dL_law_1091 dL_law_1092 dL_law_1093 dL_law_1094 dL_law_1095 ?_
  refine law_arg (pc := 1096) hE iX ib iS g0 g3 (i := 4) (by decide) dL_law_1096 dL_law_1097 dL_law_1098 dL_law_1099 dL_law_1100 ?_
  refine law_cls (pc := 1101) (av := [.int (xs 1), .int (xs 2), .int (xs 3), .int (xs 4)]) hE hI hR hp xjx_houses ⟨rfl, rfl, rfl, rfl, rfl⟩ (fun _ => lav_n4) dL_law_1101 (kr_48 _ (List.mem_of_getElem? (i := 9) rfl)) (fun a ad1 H1 locs1 ha jP1 iS1 => ?_)
  refine lv_aload_n (pc := 1104) (x := adm 0) hE.1 hE.2.1 dL_law_1104 rfl g2 ?_
  refine law_arg (pc := 1105) hE iX ib iS1 g0 g3 (i := 1) (by decide) dL_law_1105 dL_law_1106 dL_law_1107 dL_law_1108 dL_law_1109 ?_
  refine law_arg (pc := 1110) hE iX ib iS1 g0 g3 (i := 2) (by decide) dL_law_1110 dL_law_1111 dL_law_1112 dL_law_1113 dL_law_1114 ?_
  refine law_arg (pc := 1115) hE iX ib iS1 g0 g3 (i := 3) (by decide) dL_law_1115 dL_law_1116 dL_law_1117 dL_law_1118 dL_law_1119 ?_
  refine law_arg (pc := 1120) hE iX ib iS1 g0 g3 (i := 4) (by decide) dL_law_1120 dL_law_1121 dL_law_1122 dL_law_1123 dL_law_1124 ?_
  refine law_mod (pc := 1125) (av := [.int (xs 1), .int (xs 2), .int (xs 3), .int (xs 4)]) hE hp hR ha jP1 jD iS1 iL.1 ⟨ic, isl⟩ xjm_houses ⟨rfl, rfl, rfl, rfl, rfl⟩ (fun _ => lav_n4) dL_law_1125 (kr_48 _ (List.mem_of_getElem? (i := 13) rfl)) (fun a2 ad2 H2 locs2 h2 iS2 => ?_)
  exact law_eqI (pc := 1128) hr hlk hE iX ib iS2 iL ⟨ic, isl⟩ h2 dL_law_1128 rfl
theorem xjx_taken : xmi 96 = some (yX6_taken, cX6_taken, 6, 3, 3, 1, 1, 0, 0, xt96) := rfl
theorem xjm_taken : xmi 232 = some (yX7_taken, cX7_taken, 7, 3, 4, 1, 1, 0, 0, xt232) := rfl
theorem lc_taken (hr : meth.sig.returnType = ret) (hlk : meth.locks = false) (hE : lEnv p l e s m b c D cA xa fm) (hI : lInv s b D cA fm xs adx adm H locs ls cells slots) (hp : ∃ rg, xokR (fun k => xs (k + 1)) rg ∧ xpair false rg 96 232 2 = true) : W p l e room_1 s m #[Value.ref b] below meth c H locs cells slots (lw_Z below #[Value.ref b] s) (F0 m 1133 ls []) := by
  obtain ⟨rg, hR, hp⟩ := hp
  have hI2 := hI
  obtain ⟨iP, iD, jP, jD, iN, iS, iL, iX, ib, ic, isl⟩ := hI2
  have g0 := iL.2.2 (0, .ref b) (by simp)
  have g1 := iL.2.2 (1, .ref (adx 0)) (by simp)
  have g2 := iL.2.2 (2, .ref (adm 0)) (by simp)
  have g3 := iL.2.2 (3, .int 0) (by simp)
  refine lv_aload_n (pc := 1133) (x := adx 0) hE.1 hE.2.1 dL_law_1133 rfl g1 ?_
  refine law_arg (pc := 1134) hE iX ib iS g0 g3 (i := 1) (by decide) dL_law_1134 dL_law_1135 dL_law_1136 dL_law_1137 dL_law_1138 ?_
  refine law_arg (pc := 1139) hE iX ib iS g0 g3 (i := 2) (by decide) dL_law_1139 dL_law_1140 dL_law_1141 dL_law_1142 dL_law_1143 ?_
  refine law_cls (pc := 1144) (av := [.int (xs 1), .int (xs 2)]) hE hI hR hp xjx_taken ⟨rfl, rfl, rfl, rfl, rfl⟩ (fun _ => lav_n2) dL_law_1144 (kr_48 _ (List.mem_of_getElem? (i := 19) rfl)) (fun a ad1 H1 locs1 ha jP1 iS1 => ?_)
  refine lv_aload_n (pc := 1147) (x := adm 0) hE.1 hE.2.1 dL_law_1147 rfl g2 ?_
  refine law_arg (pc := 1148) hE iX ib iS1 g0 g3 (i := 1) (by decide) dL_law_1148 dL_law_1149 dL_law_1150 dL_law_1151 dL_law_1152 ?_
  refine law_arg (pc := 1153) hE iX ib iS1 g0 g3 (i := 2) (by decide) dL_law_1153 dL_law_1154 dL_law_1155 dL_law_1156 dL_law_1157 ?_
  refine law_mod (pc := 1158) (av := [.int (xs 1), .int (xs 2)]) hE hp hR ha jP1 jD iS1 iL.1 ⟨ic, isl⟩ xjm_taken ⟨rfl, rfl, rfl, rfl, rfl⟩ (fun _ => lav_n2) dL_law_1158 (kr_49 _ (List.mem_of_getElem? (i := 3) rfl)) (fun a2 ad2 H2 locs2 h2 iS2 => ?_)
  exact law_eqI (pc := 1161) hr hlk hE iX ib iS2 iL ⟨ic, isl⟩ h2 dL_law_1161 rfl
end XCASES
