/-! each call of the law (by program) -/
section XOPS
variable {p : Program} {l : Launch} {e : Env} {s : State} {m : MethodId} {b : Nat} {below : List Frame} {meth : Method} {c : Code} {D : va_G} {cA : Nat → ClassId} {xa : Nat → Nat} {fm : Value} {xs : Nat → Int32} {L i0 : Nat} {adx adm : Nat → Nat} {hC hM : dH} {H : Heap} {locs : List Loc} {ls : Array Slot} {cells slots : Nat}
theorem xjx_set : xmi 66 = some (yX6_set, cX6_set, 6, 4, 5, 1, 1, 0, 0, xt66) := rfl
theorem xjm_set : xmi 124 = some (yX7_set, cX7_set, 7, 4, 5, 1, 1, 0, 0, xt124) := rfl
theorem lc_set (hE : lEnv p l e s m b c D cA xa fm) (hI : lW s b D cA fm xs L adx adm hC hM i0 H locs ls cells slots) (hi : i0 + 6 ≤ L) (K : ∀ (gC gM : dH) (H2 : Heap) (locs2 : List Loc), lW s b D cA fm xs L adx adm gC gM i0 H2 locs2 ls cells slots → W p l e room_1 s m #[Value.ref b] below meth c H2 locs2 cells slots (lw_Z below #[Value.ref b] s) (F0 m 1166 ls [])) : W p l e room_1 s m #[Value.ref b] below meth c H locs cells slots (lw_Z below #[Value.ref b] s) (F0 m 172 ls []) := by
  obtain ⟨iP, iD, jP, jD, iN, iS, iL, iX, ib, ic, isl, iC, iM, i3, iR⟩ := hI
  have g0 := iL.2.2 (0, .ref b) (by simp)
  have g1 := iL.2.2 (1, .ref (adx 0)) (by simp)
  have g2 := iL.2.2 (2, .ref (adm 0)) (by simp)
  have g3 := iL.2.2 (3, .int (Int32.ofNat i0)) (by simp)
  refine lv_aload_n (pc := 172) (x := adx 0) hE.1 hE.2.1 dL_law_172 rfl g1 ?_
  refine law_arg (pc := 173) hE iX i3 ib iS g0 g3 (i := 1) (by omega) (by decide) dL_law_173 dL_law_174 dL_law_175 dL_law_176 dL_law_177 ?_
  refine law_arg (pc := 178) hE iX i3 ib iS g0 g3 (i := 2) (by omega) (by decide) dL_law_178 dL_law_179 dL_law_180 dL_law_181 dL_law_182 ?_
  refine law_arg (pc := 183) hE iX i3 ib iS g0 g3 (i := 3) (by omega) (by decide) dL_law_183 dL_law_184 dL_law_185 dL_law_186 dL_law_187 ?_
  refine law_op (pc := 188) (as' := [.int (xs (i0 + 1)), .int (xs (i0 + 2)), .int (xs (i0 + 3))]) (av := [.int (xs (i0 + 1)), .int (xs (i0 + 2)), .int (xs (i0 + 3))]) (ad := adx) (ad2 := adm) (C2 := dC shM hM) hE shC_sc hbC atC0 xjx_set ⟨rfl, rfl, rfl, rfl, by decide, rfl⟩ (m_X6_set (by decide) (xs (i0 + 1)) (xs (i0 + 2)) (xs (i0 + 3)) hC) (s_X6_set hC iC (xs (i0 + 1)) (xs (i0 + 2)) (xs (i0 + 3))) (fun _ => rfl) iP iD jP (fun i hi k hk => iN i hi k (by rw [dC_len] at hk; exact hk)) iS iL.1 (by decide) ⟨ic, isl⟩ dL_law_188 (kr_12 _ (List.mem_of_getElem? (i := 1) rfl)) (fun o ho he ad1 H1 locs1 iP1 iD1 jP1 iS1 => ?_)
  refine lv_pop (pc := 191) (va := .int o.1) (rest := []) hE.1 hE.2.1 dL_law_191 rfl ?_
  refine lv_aload_n (pc := 192) (x := adm 0) (rest := []) hE.1 hE.2.1 dL_law_192 rfl g2 ?_
  refine law_arg (pc := 193) hE iX i3 ib iS1 g0 g3 (i := 1) (by omega) (by decide) dL_law_193 dL_law_194 dL_law_195 dL_law_196 dL_law_197 ?_
  refine law_arg (pc := 198) hE iX i3 ib iS1 g0 g3 (i := 2) (by omega) (by decide) dL_law_198 dL_law_199 dL_law_200 dL_law_201 dL_law_202 ?_
  refine law_arg (pc := 203) hE iX i3 ib iS1 g0 g3 (i := 3) (by omega) (by decide) dL_law_203 dL_law_204 dL_law_205 dL_law_206 dL_law_207 ?_
  refine law_op (pc := 208) (rest := []) (as' := [.int (xs (i0 + 1)), .int (xs (i0 + 2)), .int (xs (i0 + 3))]) (av := [.int (xs (i0 + 1)), .int (xs (i0 + 2)), .int (xs (i0 + 3))]) (ad := adm) (ad2 := adx) (C2 := dC shC o.2) hE shM_sc hbM atM0 xjm_set ⟨rfl, rfl, rfl, rfl, by decide, rfl⟩ (m_X7_set (by decide) (xs (i0 + 1)) (xs (i0 + 2)) (xs (i0 + 3)) hM) (s_X7_set hM iM (xs (i0 + 1)) (xs (i0 + 2)) (xs (i0 + 3))) (fun _ => rfl) jP1 jD iP1 (fun i hi k hk => (iN k (by rw [dC_len] at hk; exact hk) i hi).symm) iS1 iL.1 (by decide) ⟨ic, isl⟩ dL_law_208 (kr_12 _ (List.mem_of_getElem? (i := 20) rfl)) (fun o2 ho2 he2 ad2 H2 locs2 jP2 jD2 iP2 iS2 => ?_)
  have er := op_set iR (xs (i0 + 1)) (xs (i0 + 2)) (xs (i0 + 3)) o he o2 he2
  refine lv_pop (pc := 211) (va := .int o2.1) (rest := []) hE.1 hE.2.1 dL_law_211 rfl ?_
  refine lv_goto (pc := 212) (tgt := 1166) hE.1 hE.2.1 dL_law_212 rfl ?_
  exact K o.2 o2.2 _ _ ⟨iP2, iD1, jP2, jD2, iN, iS2, iL, iX, ib, ic, isl, ho.1, ho2.1, i3, er.2⟩
theorem xjx_house : xmi 67 = some (yX6_house, cX6_house, 6, 3, 3, 1, 1, 0, 0, xt67) := rfl
theorem xjm_house : xmi 128 = some (yX7_house, cX7_house, 7, 3, 4, 1, 1, 0, 0, xt128) := rfl
theorem lc_house (hE : lEnv p l e s m b c D cA xa fm) (hI : lW s b D cA fm xs L adx adm hC hM i0 H locs ls cells slots) (hi : i0 + 6 ≤ L) (K : ∀ (gC gM : dH) (H2 : Heap) (locs2 : List Loc), lW s b D cA fm xs L adx adm gC gM i0 H2 locs2 ls cells slots → W p l e room_1 s m #[Value.ref b] below meth c H2 locs2 cells slots (lw_Z below #[Value.ref b] s) (F0 m 1166 ls [])) : W p l e room_1 s m #[Value.ref b] below meth c H locs cells slots (lw_Z below #[Value.ref b] s) (F0 m 215 ls []) := by
  obtain ⟨iP, iD, jP, jD, iN, iS, iL, iX, ib, ic, isl, iC, iM, i3, iR⟩ := hI
  have g0 := iL.2.2 (0, .ref b) (by simp)
  have g1 := iL.2.2 (1, .ref (adx 0)) (by simp)
  have g2 := iL.2.2 (2, .ref (adm 0)) (by simp)
  have g3 := iL.2.2 (3, .int (Int32.ofNat i0)) (by simp)
  refine lv_aload_n (pc := 215) (x := adx 0) hE.1 hE.2.1 dL_law_215 rfl g1 ?_
  refine law_arg (pc := 216) hE iX i3 ib iS g0 g3 (i := 1) (by omega) (by decide) dL_law_216 dL_law_217 dL_law_218 dL_law_219 dL_law_220 ?_
  refine law_arg (pc := 221) hE iX i3 ib iS g0 g3 (i := 2) (by omega) (by decide) dL_law_221 dL_law_222 dL_law_223 dL_law_224 dL_law_225 ?_
  refine law_op (pc := 226) (as' := [.int (xs (i0 + 1)), .int (xs (i0 + 2))]) (av := [.int (xs (i0 + 1)), .int (xs (i0 + 2))]) (ad := adx) (ad2 := adm) (C2 := dC shM hM) hE shC_sc hbC atC0 xjx_house ⟨rfl, rfl, rfl, rfl, by decide, rfl⟩ (m_X6_house (by decide) (xs (i0 + 1)) (xs (i0 + 2)) hC) (s_X6_house hC iC (xs (i0 + 1)) (xs (i0 + 2))) (fun _ => rfl) iP iD jP (fun i hi k hk => iN i hi k (by rw [dC_len] at hk; exact hk)) iS iL.1 (by decide) ⟨ic, isl⟩ dL_law_226 (kr_23 _ (List.mem_of_getElem? (i := 20) rfl)) (fun o ho he ad1 H1 locs1 iP1 iD1 jP1 iS1 => ?_)
  refine lv_pop (pc := 229) (va := .int o.1) (rest := []) hE.1 hE.2.1 dL_law_229 rfl ?_
  refine lv_aload_n (pc := 230) (x := adm 0) (rest := []) hE.1 hE.2.1 dL_law_230 rfl g2 ?_
  refine law_arg (pc := 231) hE iX i3 ib iS1 g0 g3 (i := 1) (by omega) (by decide) dL_law_231 dL_law_232 dL_law_233 dL_law_234 dL_law_235 ?_
  refine law_arg (pc := 236) hE iX i3 ib iS1 g0 g3 (i := 2) (by omega) (by decide) dL_law_236 dL_law_237 dL_law_238 dL_law_239 dL_law_240 ?_
  refine law_op (pc := 241) (rest := []) (as' := [.int (xs (i0 + 1)), .int (xs (i0 + 2))]) (av := [.int (xs (i0 + 1)), .int (xs (i0 + 2))]) (ad := adm) (ad2 := adx) (C2 := dC shC o.2) hE shM_sc hbM atM0 xjm_house ⟨rfl, rfl, rfl, rfl, by decide, rfl⟩ (m_X7_house (by decide) (xs (i0 + 1)) (xs (i0 + 2)) hM) (s_X7_house hM iM (xs (i0 + 1)) (xs (i0 + 2))) (fun _ => rfl) jP1 jD iP1 (fun i hi k hk => (iN k (by rw [dC_len] at hk; exact hk) i hi).symm) iS1 iL.1 (by decide) ⟨ic, isl⟩ dL_law_241 (kr_24 _ (List.mem_of_getElem? (i := 9) rfl)) (fun o2 ho2 he2 ad2 H2 locs2 jP2 jD2 iP2 iS2 => ?_)
  have er := op_house iR (xs (i0 + 1)) (xs (i0 + 2)) o he o2 he2
  refine lv_pop (pc := 244) (va := .int o2.1) (rest := []) hE.1 hE.2.1 dL_law_244 rfl ?_
  refine lv_goto (pc := 245) (tgt := 1166) hE.1 hE.2.1 dL_law_245 rfl ?_
  exact K o.2 o2.2 _ _ ⟨iP2, iD1, jP2, jD2, iN, iS2, iL, iX, ib, ic, isl, ho.1, ho2.1, i3, er.2⟩
theorem xjx_bind : xmi 68 = some (yX6_bind, cX6_bind, 6, 4, 5, 1, 1, 0, 0, xt68) := rfl
theorem xjm_bind : xmi 130 = some (yX7_bind, cX7_bind, 7, 4, 5, 1, 1, 0, 0, xt130) := rfl
theorem lc_bind (hE : lEnv p l e s m b c D cA xa fm) (hI : lW s b D cA fm xs L adx adm hC hM i0 H locs ls cells slots) (hi : i0 + 6 ≤ L) (K : ∀ (gC gM : dH) (H2 : Heap) (locs2 : List Loc), lW s b D cA fm xs L adx adm gC gM i0 H2 locs2 ls cells slots → W p l e room_1 s m #[Value.ref b] below meth c H2 locs2 cells slots (lw_Z below #[Value.ref b] s) (F0 m 1166 ls [])) : W p l e room_1 s m #[Value.ref b] below meth c H locs cells slots (lw_Z below #[Value.ref b] s) (F0 m 248 ls []) := by
  obtain ⟨iP, iD, jP, jD, iN, iS, iL, iX, ib, ic, isl, iC, iM, i3, iR⟩ := hI
  have g0 := iL.2.2 (0, .ref b) (by simp)
  have g1 := iL.2.2 (1, .ref (adx 0)) (by simp)
  have g2 := iL.2.2 (2, .ref (adm 0)) (by simp)
  have g3 := iL.2.2 (3, .int (Int32.ofNat i0)) (by simp)
  refine lv_aload_n (pc := 248) (x := adx 0) hE.1 hE.2.1 dL_law_248 rfl g1 ?_
  refine law_arg (pc := 249) hE iX i3 ib iS g0 g3 (i := 1) (by omega) (by decide) dL_law_249 dL_law_250 dL_law_251 dL_law_252 dL_law_253 ?_
  refine law_arg (pc := 254) hE iX i3 ib iS g0 g3 (i := 2) (by omega) (by decide) dL_law_254 dL_law_255 dL_law_256 dL_law_257 dL_law_258 ?_
  refine law_arg (pc := 259) hE iX i3 ib iS g0 g3 (i := 3) (by omega) (by decide) dL_law_259 dL_law_260 dL_law_261 dL_law_262 dL_law_263 ?_
  refine law_op (pc := 264) (as' := [.int (xs (i0 + 1)), .int (xs (i0 + 2)), .int (xs (i0 + 3))]) (av := [.int (xs (i0 + 1)), .int (xs (i0 + 2)), .int (xs (i0 + 3))]) (ad := adx) (ad2 := adm) (C2 := dC shM hM) hE shC_sc hbC atC0 xjx_bind ⟨rfl, rfl, rfl, rfl, by decide, rfl⟩ (m_X6_bind (by decide) (xs (i0 + 1)) (xs (i0 + 2)) (xs (i0 + 3)) hC) (s_X6_bind hC iC (xs (i0 + 1)) (xs (i0 + 2)) (xs (i0 + 3))) (fun _ => rfl) iP iD jP (fun i hi k hk => iN i hi k (by rw [dC_len] at hk; exact hk)) iS iL.1 (by decide) ⟨ic, isl⟩ dL_law_264 (kr_24 _ (List.mem_of_getElem? (i := 18) rfl)) (fun o ho he ad1 H1 locs1 iP1 iD1 jP1 iS1 => ?_)
  refine lv_pop (pc := 267) (va := .int o.1) (rest := []) hE.1 hE.2.1 dL_law_267 rfl ?_
  refine lv_aload_n (pc := 268) (x := adm 0) (rest := []) hE.1 hE.2.1 dL_law_268 rfl g2 ?_
  refine law_arg (pc := 269) hE iX i3 ib iS1 g0 g3 (i := 1) (by omega) (by decide) dL_law_269 dL_law_270 dL_law_271 dL_law_272 dL_law_273 ?_
  refine law_arg (pc := 274) hE iX i3 ib iS1 g0 g3 (i := 2) (by omega) (by decide) dL_law_274 dL_law_275 dL_law_276 dL_law_277 dL_law_278 ?_
  refine law_arg (pc := 279) hE iX i3 ib iS1 g0 g3 (i := 3) (by omega) (by decide) dL_law_279 dL_law_280 dL_law_281 dL_law_282 dL_law_283 ?_
  refine law_op (pc := 284) (rest := []) (as' := [.int (xs (i0 + 1)), .int (xs (i0 + 2)), .int (xs (i0 + 3))]) (av := [.int (xs (i0 + 1)), .int (xs (i0 + 2)), .int (xs (i0 + 3))]) (ad := adm) (ad2 := adx) (C2 := dC shC o.2) hE shM_sc hbM atM0 xjm_bind ⟨rfl, rfl, rfl, rfl, by decide, rfl⟩ (m_X7_bind (by decide) (xs (i0 + 1)) (xs (i0 + 2)) (xs (i0 + 3)) hM) (s_X7_bind hM iM (xs (i0 + 1)) (xs (i0 + 2)) (xs (i0 + 3))) (fun _ => rfl) jP1 jD iP1 (fun i hi k hk => (iN k (by rw [dC_len] at hk; exact hk) i hi).symm) iS1 iL.1 (by decide) ⟨ic, isl⟩ dL_law_284 (kr_25 _ (List.mem_of_getElem? (i := 7) rfl)) (fun o2 ho2 he2 ad2 H2 locs2 jP2 jD2 iP2 iS2 => ?_)
  have er := op_bind iR (xs (i0 + 1)) (xs (i0 + 2)) (xs (i0 + 3)) o he o2 he2
  refine lv_pop (pc := 287) (va := .int o2.1) (rest := []) hE.1 hE.2.1 dL_law_287 rfl ?_
  refine lv_goto (pc := 288) (tgt := 1166) hE.1 hE.2.1 dL_law_288 rfl ?_
  exact K o.2 o2.2 _ _ ⟨iP2, iD1, jP2, jD2, iN, iS2, iL, iX, ib, ic, isl, ho.1, ho2.1, i3, er.2⟩
theorem xjx_told : xmi 69 = some (yX6_told, cX6_told, 6, 3, 4, 1, 1, 0, 0, xt69) := rfl
theorem xjm_told : xmi 131 = some (yX7_told, cX7_told, 7, 3, 6, 1, 1, 0, 0, xt131) := rfl
theorem lc_told (hE : lEnv p l e s m b c D cA xa fm) (hI : lW s b D cA fm xs L adx adm hC hM i0 H locs ls cells slots) (hi : i0 + 6 ≤ L) (K : ∀ (gC gM : dH) (H2 : Heap) (locs2 : List Loc), lW s b D cA fm xs L adx adm gC gM i0 H2 locs2 ls cells slots → W p l e room_1 s m #[Value.ref b] below meth c H2 locs2 cells slots (lw_Z below #[Value.ref b] s) (F0 m 1166 ls [])) : W p l e room_1 s m #[Value.ref b] below meth c H locs cells slots (lw_Z below #[Value.ref b] s) (F0 m 291 ls []) := by
  obtain ⟨iP, iD, jP, jD, iN, iS, iL, iX, ib, ic, isl, iC, iM, i3, iR⟩ := hI
  have g0 := iL.2.2 (0, .ref b) (by simp)
  have g1 := iL.2.2 (1, .ref (adx 0)) (by simp)
  have g2 := iL.2.2 (2, .ref (adm 0)) (by simp)
  have g3 := iL.2.2 (3, .int (Int32.ofNat i0)) (by simp)
  refine lv_aload_n (pc := 291) (x := adx 0) hE.1 hE.2.1 dL_law_291 rfl g1 ?_
  refine law_arg (pc := 292) hE iX i3 ib iS g0 g3 (i := 1) (by omega) (by decide) dL_law_292 dL_law_293 dL_law_294 dL_law_295 dL_law_296 ?_
  refine law_arg (pc := 297) hE iX i3 ib iS g0 g3 (i := 2) (by omega) (by decide) dL_law_297 dL_law_298 dL_law_299 dL_law_300 dL_law_301 ?_
  refine law_op (pc := 302) (as' := [.int (xs (i0 + 1)), .int (xs (i0 + 2))]) (av := [.int (xs (i0 + 1)), .int (xs (i0 + 2))]) (ad := adx) (ad2 := adm) (C2 := dC shM hM) hE shC_sc hbC atC0 xjx_told ⟨rfl, rfl, rfl, rfl, by decide, rfl⟩ (m_X6_told (by decide) (xs (i0 + 1)) (xs (i0 + 2)) hC) (s_X6_told hC iC (xs (i0 + 1)) (xs (i0 + 2))) (fun _ => rfl) iP iD jP (fun i hi k hk => iN i hi k (by rw [dC_len] at hk; exact hk)) iS iL.1 (by decide) ⟨ic, isl⟩ dL_law_302 (kr_25 _ (List.mem_of_getElem? (i := 15) rfl)) (fun o ho he ad1 H1 locs1 iP1 iD1 jP1 iS1 => ?_)
  refine lv_pop (pc := 305) (va := .int o.1) (rest := []) hE.1 hE.2.1 dL_law_305 rfl ?_
  refine lv_aload_n (pc := 306) (x := adm 0) (rest := []) hE.1 hE.2.1 dL_law_306 rfl g2 ?_
  refine law_arg (pc := 307) hE iX i3 ib iS1 g0 g3 (i := 1) (by omega) (by decide) dL_law_307 dL_law_308 dL_law_309 dL_law_310 dL_law_311 ?_
  refine law_arg (pc := 312) hE iX i3 ib iS1 g0 g3 (i := 2) (by omega) (by decide) dL_law_312 dL_law_313 dL_law_314 dL_law_315 dL_law_316 ?_
  refine law_op (pc := 317) (rest := []) (as' := [.int (xs (i0 + 1)), .int (xs (i0 + 2))]) (av := [.int (xs (i0 + 1)), .int (xs (i0 + 2))]) (ad := adm) (ad2 := adx) (C2 := dC shC o.2) hE shM_sc hbM atM0 xjm_told ⟨rfl, rfl, rfl, rfl, by decide, rfl⟩ (m_X7_told (by decide) (xs (i0 + 1)) (xs (i0 + 2)) hM) (s_X7_told hM iM (xs (i0 + 1)) (xs (i0 + 2))) (fun _ => rfl) jP1 jD iP1 (fun i hi k hk => (iN k (by rw [dC_len] at hk; exact hk) i hi).symm) iS1 iL.1 (by decide) ⟨ic, isl⟩ dL_law_317 (kr_27 _ (List.mem_of_getElem? (i := 14) rfl)) (fun o2 ho2 he2 ad2 H2 locs2 jP2 jD2 iP2 iS2 => ?_)
  have er := op_told iR (xs (i0 + 1)) (xs (i0 + 2)) o he o2 he2
  refine lv_pop (pc := 320) (va := .int o2.1) (rest := []) hE.1 hE.2.1 dL_law_320 rfl ?_
  refine lv_goto (pc := 321) (tgt := 1166) hE.1 hE.2.1 dL_law_321 rfl ?_
  exact K o.2 o2.2 _ _ ⟨iP2, iD1, jP2, jD2, iN, iS2, iL, iX, ib, ic, isl, ho.1, ho2.1, i3, er.2⟩
theorem xjx_feed : xmi 70 = some (yX6_feed, cX6_feed, 6, 2, 2, 1, 1, 0, 0, xt70) := rfl
theorem xjm_feed : xmi 133 = some (yX7_feed, cX7_feed, 7, 2, 2, 1, 1, 0, 0, xt133) := rfl
theorem lc_feed (hE : lEnv p l e s m b c D cA xa fm) (hI : lW s b D cA fm xs L adx adm hC hM i0 H locs ls cells slots) (hi : i0 + 6 ≤ L) (K : ∀ (gC gM : dH) (H2 : Heap) (locs2 : List Loc), lW s b D cA fm xs L adx adm gC gM i0 H2 locs2 ls cells slots → W p l e room_1 s m #[Value.ref b] below meth c H2 locs2 cells slots (lw_Z below #[Value.ref b] s) (F0 m 1166 ls [])) : W p l e room_1 s m #[Value.ref b] below meth c H locs cells slots (lw_Z below #[Value.ref b] s) (F0 m 324 ls []) := by
  obtain ⟨iP, iD, jP, jD, iN, iS, iL, iX, ib, ic, isl, iC, iM, i3, iR⟩ := hI
  have g0 := iL.2.2 (0, .ref b) (by simp)
  have g1 := iL.2.2 (1, .ref (adx 0)) (by simp)
  have g2 := iL.2.2 (2, .ref (adm 0)) (by simp)
  have g3 := iL.2.2 (3, .int (Int32.ofNat i0)) (by simp)
  refine lv_aload_n (pc := 324) (x := adx 0) hE.1 hE.2.1 dL_law_324 rfl g1 ?_
  refine law_arg (pc := 325) hE iX i3 ib iS g0 g3 (i := 1) (by omega) (by decide) dL_law_325 dL_law_326 dL_law_327 dL_law_328 dL_law_329 ?_
  refine law_op (pc := 330) (as' := [.int (xs (i0 + 1))]) (av := [.int (xs (i0 + 1))]) (ad := adx) (ad2 := adm) (C2 := dC shM hM) hE shC_sc hbC atC0 xjx_feed ⟨rfl, rfl, rfl, rfl, by decide, rfl⟩ (m_X6_feed (by decide) (xs (i0 + 1)) hC) (s_X6_feed hC iC (xs (i0 + 1))) (fun _ => rfl) iP iD jP (fun i hi k hk => iN i hi k (by rw [dC_len] at hk; exact hk)) iS iL.1 (by decide) ⟨ic, isl⟩ dL_law_330 (kr_27 _ (List.mem_of_getElem? (i := 15) rfl)) (fun o ho he ad1 H1 locs1 iP1 iD1 jP1 iS1 => ?_)
  refine lv_pop (pc := 333) (va := .int o.1) (rest := []) hE.1 hE.2.1 dL_law_333 rfl ?_
  refine lv_aload_n (pc := 334) (x := adm 0) (rest := []) hE.1 hE.2.1 dL_law_334 rfl g2 ?_
  refine law_arg (pc := 335) hE iX i3 ib iS1 g0 g3 (i := 1) (by omega) (by decide) dL_law_335 dL_law_336 dL_law_337 dL_law_338 dL_law_339 ?_
  refine law_op (pc := 340) (rest := []) (as' := [.int (xs (i0 + 1))]) (av := [.int (xs (i0 + 1))]) (ad := adm) (ad2 := adx) (C2 := dC shC o.2) hE shM_sc hbM atM0 xjm_feed ⟨rfl, rfl, rfl, rfl, by decide, rfl⟩ (m_X7_feed (by decide) (xs (i0 + 1)) hM) (s_X7_feed hM iM (xs (i0 + 1))) (fun _ => rfl) jP1 jD iP1 (fun i hi k hk => (iN k (by rw [dC_len] at hk; exact hk) i hi).symm) iS1 iL.1 (by decide) ⟨ic, isl⟩ dL_law_340 (kr_27 _ (List.mem_of_getElem? (i := 20) rfl)) (fun o2 ho2 he2 ad2 H2 locs2 jP2 jD2 iP2 iS2 => ?_)
  have er := op_feed iR (xs (i0 + 1)) o he o2 he2
  refine lv_pop (pc := 343) (va := .int o2.1) (rest := []) hE.1 hE.2.1 dL_law_343 rfl ?_
  refine lv_goto (pc := 344) (tgt := 1166) hE.1 hE.2.1 dL_law_344 rfl ?_
  exact K o.2 o2.2 _ _ ⟨iP2, iD1, jP2, jD2, iN, iS2, iL, iX, ib, ic, isl, ho.1, ho2.1, i3, er.2⟩
theorem xjx_text : xmi 71 = some (yX6_text, cX6_text, 6, 1, 2, 1, 1, 0, 0, xt71) := rfl
theorem xjm_text : xmi 180 = some (yX7_text, cX7_text, 7, 1, 2, 1, 1, 0, 0, xt180) := rfl
theorem lc_text (hE : lEnv p l e s m b c D cA xa fm) (hI : lW s b D cA fm xs L adx adm hC hM i0 H locs ls cells slots) (hi : i0 + 6 ≤ L) (K : ∀ (gC gM : dH) (H2 : Heap) (locs2 : List Loc), lW s b D cA fm xs L adx adm gC gM i0 H2 locs2 ls cells slots → W p l e room_1 s m #[Value.ref b] below meth c H2 locs2 cells slots (lw_Z below #[Value.ref b] s) (F0 m 1166 ls [])) : W p l e room_1 s m #[Value.ref b] below meth c H locs cells slots (lw_Z below #[Value.ref b] s) (F0 m 347 ls []) := by
  obtain ⟨iP, iD, jP, jD, iN, iS, iL, iX, ib, ic, isl, iC, iM, i3, iR⟩ := hI
  have g0 := iL.2.2 (0, .ref b) (by simp)
  have g1 := iL.2.2 (1, .ref (adx 0)) (by simp)
  have g2 := iL.2.2 (2, .ref (adm 0)) (by simp)
  have g3 := iL.2.2 (3, .int (Int32.ofNat i0)) (by simp)
  refine lv_aload_n (pc := 347) (x := adx 0) hE.1 hE.2.1 dL_law_347 rfl g1 ?_
  refine law_op (pc := 348) (as' := []) (av := []) (ad := adx) (ad2 := adm) (C2 := dC shM hM) hE shC_sc hbC atC0 xjx_text ⟨rfl, rfl, rfl, rfl, by decide, rfl⟩ (m_X6_text (by decide)  hC) (s_X6_text hC iC ) (fun _ => rfl) iP iD jP (fun i hi k hk => iN i hi k (by rw [dC_len] at hk; exact hk)) iS iL.1 (by decide) ⟨ic, isl⟩ dL_law_348 (kr_28 _ (List.mem_of_getElem? (i := 2) rfl)) (fun o ho he ad1 H1 locs1 iP1 iD1 jP1 iS1 => ?_)
  refine lv_pop (pc := 351) (va := .int o.1) (rest := []) hE.1 hE.2.1 dL_law_351 rfl ?_
  refine lv_aload_n (pc := 352) (x := adm 0) (rest := []) hE.1 hE.2.1 dL_law_352 rfl g2 ?_
  refine law_op (pc := 353) (rest := []) (as' := []) (av := []) (ad := adm) (ad2 := adx) (C2 := dC shC o.2) hE shM_sc hbM atM0 xjm_text ⟨rfl, rfl, rfl, rfl, by decide, rfl⟩ (m_X7_text (by decide)  hM) (s_X7_text hM iM ) (fun _ => rfl) jP1 jD iP1 (fun i hi k hk => (iN k (by rw [dC_len] at hk; exact hk) i hi).symm) iS1 iL.1 (by decide) ⟨ic, isl⟩ dL_law_353 (kr_28 _ (List.mem_of_getElem? (i := 6) rfl)) (fun o2 ho2 he2 ad2 H2 locs2 jP2 jD2 iP2 iS2 => ?_)
  have er := op_text iR iM  o he o2 he2
  refine lv_pop (pc := 356) (va := .int o2.1) (rest := []) hE.1 hE.2.1 dL_law_356 rfl ?_
  refine lv_goto (pc := 357) (tgt := 1166) hE.1 hE.2.1 dL_law_357 rfl ?_
  exact K o.2 o2.2 _ _ ⟨iP2, iD1, jP2, jD2, iN, iS2, iL, iX, ib, ic, isl, ho.1, ho2.1, i3, er.2⟩
theorem xjx_force : xmi 72 = some (yX6_force, cX6_force, 6, 2, 3, 1, 1, 0, 0, xt72) := rfl
theorem xjm_force : xmi 181 = some (yX7_force, cX7_force, 7, 2, 3, 1, 1, 0, 0, xt181) := rfl
theorem lc_force (hE : lEnv p l e s m b c D cA xa fm) (hI : lW s b D cA fm xs L adx adm hC hM i0 H locs ls cells slots) (hi : i0 + 6 ≤ L) (K : ∀ (gC gM : dH) (H2 : Heap) (locs2 : List Loc), lW s b D cA fm xs L adx adm gC gM i0 H2 locs2 ls cells slots → W p l e room_1 s m #[Value.ref b] below meth c H2 locs2 cells slots (lw_Z below #[Value.ref b] s) (F0 m 1166 ls [])) : W p l e room_1 s m #[Value.ref b] below meth c H locs cells slots (lw_Z below #[Value.ref b] s) (F0 m 360 ls []) := by
  obtain ⟨iP, iD, jP, jD, iN, iS, iL, iX, ib, ic, isl, iC, iM, i3, iR⟩ := hI
  have g0 := iL.2.2 (0, .ref b) (by simp)
  have g1 := iL.2.2 (1, .ref (adx 0)) (by simp)
  have g2 := iL.2.2 (2, .ref (adm 0)) (by simp)
  have g3 := iL.2.2 (3, .int (Int32.ofNat i0)) (by simp)
  refine lv_aload_n (pc := 360) (x := adx 0) hE.1 hE.2.1 dL_law_360 rfl g1 ?_
  refine law_arg (pc := 361) hE iX i3 ib iS g0 g3 (i := 1) (by omega) (by decide) dL_law_361 dL_law_362 dL_law_363 dL_law_364 dL_law_365 ?_
  refine law_op (pc := 366) (as' := [.int (xs (i0 + 1))]) (av := [.int (xs (i0 + 1))]) (ad := adx) (ad2 := adm) (C2 := dC shM hM) hE shC_sc hbC atC0 xjx_force ⟨rfl, rfl, rfl, rfl, by decide, rfl⟩ (m_X6_force (by decide) (xs (i0 + 1)) hC) (s_X6_force hC iC (xs (i0 + 1))) (fun _ => rfl) iP iD jP (fun i hi k hk => iN i hi k (by rw [dC_len] at hk; exact hk)) iS iL.1 (by decide) ⟨ic, isl⟩ dL_law_366 (kr_28 _ (List.mem_of_getElem? (i := 10) rfl)) (fun o ho he ad1 H1 locs1 iP1 iD1 jP1 iS1 => ?_)
  refine lv_pop (pc := 369) (va := .int o.1) (rest := []) hE.1 hE.2.1 dL_law_369 rfl ?_
  refine lv_aload_n (pc := 370) (x := adm 0) (rest := []) hE.1 hE.2.1 dL_law_370 rfl g2 ?_
  refine law_arg (pc := 371) hE iX i3 ib iS1 g0 g3 (i := 1) (by omega) (by decide) dL_law_371 dL_law_372 dL_law_373 dL_law_374 dL_law_375 ?_
  refine law_op (pc := 376) (rest := []) (as' := [.int (xs (i0 + 1))]) (av := [.int (xs (i0 + 1))]) (ad := adm) (ad2 := adx) (C2 := dC shC o.2) hE shM_sc hbM atM0 xjm_force ⟨rfl, rfl, rfl, rfl, by decide, rfl⟩ (m_X7_force (by decide) (xs (i0 + 1)) hM) (s_X7_force hM iM (xs (i0 + 1))) (fun _ => rfl) jP1 jD iP1 (fun i hi k hk => (iN k (by rw [dC_len] at hk; exact hk) i hi).symm) iS1 iL.1 (by decide) ⟨ic, isl⟩ dL_law_376 (kr_28 _ (List.mem_of_getElem? (i := 16) rfl)) (fun o2 ho2 he2 ad2 H2 locs2 jP2 jD2 iP2 iS2 => ?_)
  have er := op_force iR (xs (i0 + 1)) o he o2 he2
  refine lv_pop (pc := 379) (va := .int o2.1) (rest := []) hE.1 hE.2.1 dL_law_379 rfl ?_
  refine lv_goto (pc := 380) (tgt := 1166) hE.1 hE.2.1 dL_law_380 rfl ?_
  exact K o.2 o2.2 _ _ ⟨iP2, iD1, jP2, jD2, iN, iS2, iL, iX, ib, ic, isl, ho.1, ho2.1, i3, er.2⟩
theorem xjx_asks : xmi 73 = some (yX6_asks, cX6_asks, 6, 4, 4, 1, 1, 0, 0, xt73) := rfl
theorem xjm_asks : xmi 187 = some (yX7_asks, cX7_asks, 7, 4, 4, 1, 1, 0, 0, xt187) := rfl
theorem lc_asks (hE : lEnv p l e s m b c D cA xa fm) (hI : lW s b D cA fm xs L adx adm hC hM i0 H locs ls cells slots) (hi : i0 + 6 ≤ L) (K : ∀ (gC gM : dH) (H2 : Heap) (locs2 : List Loc), lW s b D cA fm xs L adx adm gC gM i0 H2 locs2 ls cells slots → W p l e room_1 s m #[Value.ref b] below meth c H2 locs2 cells slots (lw_Z below #[Value.ref b] s) (F0 m 1166 ls [])) : W p l e room_1 s m #[Value.ref b] below meth c H locs cells slots (lw_Z below #[Value.ref b] s) (F0 m 383 ls []) := by
  obtain ⟨iP, iD, jP, jD, iN, iS, iL, iX, ib, ic, isl, iC, iM, i3, iR⟩ := hI
  have g0 := iL.2.2 (0, .ref b) (by simp)
  have g1 := iL.2.2 (1, .ref (adx 0)) (by simp)
  have g2 := iL.2.2 (2, .ref (adm 0)) (by simp)
  have g3 := iL.2.2 (3, .int (Int32.ofNat i0)) (by simp)
  refine lv_aload_n (pc := 383) (x := adx 0) hE.1 hE.2.1 dL_law_383 rfl g1 ?_
  refine law_arg (pc := 384) hE iX i3 ib iS g0 g3 (i := 1) (by omega) (by decide) dL_law_384 dL_law_385 dL_law_386 dL_law_387 dL_law_388 ?_
  refine law_arg (pc := 389) hE iX i3 ib iS g0 g3 (i := 2) (by omega) (by decide) dL_law_389 dL_law_390 dL_law_391 dL_law_392 dL_law_393 ?_
  refine law_arg (pc := 394) hE iX i3 ib iS g0 g3 (i := 3) (by omega) (by decide) dL_law_394 dL_law_395 dL_law_396 dL_law_397 dL_law_398 ?_
  refine law_op (pc := 399) (as' := [.int (xs (i0 + 1)), .int (xs (i0 + 2)), .int (xs (i0 + 3))]) (av := [.int (xs (i0 + 1)), .int (xs (i0 + 2)), .int (xs (i0 + 3))]) (ad := adx) (ad2 := adm) (C2 := dC shM hM) hE shC_sc hbC atC0 xjx_asks ⟨rfl, rfl, rfl, rfl, by decide, rfl⟩ (m_X6_asks (by decide) (xs (i0 + 1)) (xs (i0 + 2)) (xs (i0 + 3)) hC) (s_X6_asks hC iC (xs (i0 + 1)) (xs (i0 + 2)) (xs (i0 + 3))) (fun _ => rfl) iP iD jP (fun i hi k hk => iN i hi k (by rw [dC_len] at hk; exact hk)) iS iL.1 (by decide) ⟨ic, isl⟩ dL_law_399 (kr_28 _ (List.mem_of_getElem? (i := 20) rfl)) (fun o ho he ad1 H1 locs1 iP1 iD1 jP1 iS1 => ?_)
  refine lv_pop (pc := 402) (va := .int o.1) (rest := []) hE.1 hE.2.1 dL_law_402 rfl ?_
  refine lv_aload_n (pc := 403) (x := adm 0) (rest := []) hE.1 hE.2.1 dL_law_403 rfl g2 ?_
  refine law_arg (pc := 404) hE iX i3 ib iS1 g0 g3 (i := 1) (by omega) (by decide) dL_law_404 dL_law_405 dL_law_406 dL_law_407 dL_law_408 ?_
  refine law_arg (pc := 409) hE iX i3 ib iS1 g0 g3 (i := 2) (by omega) (by decide) dL_law_409 dL_law_410 dL_law_411 dL_law_412 dL_law_413 ?_
  refine law_arg (pc := 414) hE iX i3 ib iS1 g0 g3 (i := 3) (by omega) (by decide) dL_law_414 dL_law_415 dL_law_416 dL_law_417 dL_law_418 ?_
  refine law_op (pc := 419) (rest := []) (as' := [.int (xs (i0 + 1)), .int (xs (i0 + 2)), .int (xs (i0 + 3))]) (av := [.int (xs (i0 + 1)), .int (xs (i0 + 2)), .int (xs (i0 + 3))]) (ad := adm) (ad2 := adx) (C2 := dC shC o.2) hE shM_sc hbM atM0 xjm_asks ⟨rfl, rfl, rfl, rfl, by decide, rfl⟩ (m_X7_asks (by decide) (xs (i0 + 1)) (xs (i0 + 2)) (xs (i0 + 3)) hM) (s_X7_asks hM iM (xs (i0 + 1)) (xs (i0 + 2)) (xs (i0 + 3))) (fun _ => rfl) jP1 jD iP1 (fun i hi k hk => (iN k (by rw [dC_len] at hk; exact hk) i hi).symm) iS1 iL.1 (by decide) ⟨ic, isl⟩ dL_law_419 (kr_29 _ (List.mem_of_getElem? (i := 11) rfl)) (fun o2 ho2 he2 ad2 H2 locs2 jP2 jD2 iP2 iS2 => ?_)
  have er := op_asks iR (xs (i0 + 1)) (xs (i0 + 2)) (xs (i0 + 3)) o he o2 he2
  refine lv_pop (pc := 422) (va := .int o2.1) (rest := []) hE.1 hE.2.1 dL_law_422 rfl ?_
  refine lv_goto (pc := 423) (tgt := 1166) hE.1 hE.2.1 dL_law_423 rfl ?_
  exact K o.2 o2.2 _ _ ⟨iP2, iD1, jP2, jD2, iN, iS2, iL, iX, ib, ic, isl, ho.1, ho2.1, i3, er.2⟩
theorem xjx_feast : xmi 74 = some (yX6_feast, cX6_feast, 6, 1, 1, 1, 1, 0, 0, xt74) := rfl
theorem xjm_feast : xmi 190 = some (yX7_feast, cX7_feast, 7, 1, 1, 1, 1, 0, 0, xt190) := rfl
theorem lc_feast (hE : lEnv p l e s m b c D cA xa fm) (hI : lW s b D cA fm xs L adx adm hC hM i0 H locs ls cells slots) (hi : i0 + 6 ≤ L) (K : ∀ (gC gM : dH) (H2 : Heap) (locs2 : List Loc), lW s b D cA fm xs L adx adm gC gM i0 H2 locs2 ls cells slots → W p l e room_1 s m #[Value.ref b] below meth c H2 locs2 cells slots (lw_Z below #[Value.ref b] s) (F0 m 1166 ls [])) : W p l e room_1 s m #[Value.ref b] below meth c H locs cells slots (lw_Z below #[Value.ref b] s) (F0 m 426 ls []) := by
  obtain ⟨iP, iD, jP, jD, iN, iS, iL, iX, ib, ic, isl, iC, iM, i3, iR⟩ := hI
  have g0 := iL.2.2 (0, .ref b) (by simp)
  have g1 := iL.2.2 (1, .ref (adx 0)) (by simp)
  have g2 := iL.2.2 (2, .ref (adm 0)) (by simp)
  have g3 := iL.2.2 (3, .int (Int32.ofNat i0)) (by simp)
  refine lv_aload_n (pc := 426) (x := adx 0) hE.1 hE.2.1 dL_law_426 rfl g1 ?_
  refine law_op (pc := 427) (as' := []) (av := []) (ad := adx) (ad2 := adm) (C2 := dC shM hM) hE shC_sc hbC atC0 xjx_feast ⟨rfl, rfl, rfl, rfl, by decide, rfl⟩ (m_X6_feast (by decide)  hC) (s_X6_feast hC iC ) (fun _ => rfl) iP iD jP (fun i hi k hk => iN i hi k (by rw [dC_len] at hk; exact hk)) iS iL.1 (by decide) ⟨ic, isl⟩ dL_law_427 (kr_29 _ (List.mem_of_getElem? (i := 23) rfl)) (fun o ho he ad1 H1 locs1 iP1 iD1 jP1 iS1 => ?_)
  refine lv_pop (pc := 430) (va := .int o.1) (rest := []) hE.1 hE.2.1 dL_law_430 rfl ?_
  refine lv_aload_n (pc := 431) (x := adm 0) (rest := []) hE.1 hE.2.1 dL_law_431 rfl g2 ?_
  refine law_op (pc := 432) (rest := []) (as' := []) (av := []) (ad := adm) (ad2 := adx) (C2 := dC shC o.2) hE shM_sc hbM atM0 xjm_feast ⟨rfl, rfl, rfl, rfl, by decide, rfl⟩ (m_X7_feast (by decide)  hM) (s_X7_feast hM iM ) (fun _ => rfl) jP1 jD iP1 (fun i hi k hk => (iN k (by rw [dC_len] at hk; exact hk) i hi).symm) iS1 iL.1 (by decide) ⟨ic, isl⟩ dL_law_432 (kr_30 _ (List.mem_of_getElem? (i := 14) rfl)) (fun o2 ho2 he2 ad2 H2 locs2 jP2 jD2 iP2 iS2 => ?_)
  have er := op_feast iR  o he o2 he2
  refine lv_pop (pc := 435) (va := .int o2.1) (rest := []) hE.1 hE.2.1 dL_law_435 rfl ?_
  refine lv_goto (pc := 436) (tgt := 1166) hE.1 hE.2.1 dL_law_436 rfl ?_
  exact K o.2 o2.2 _ _ ⟨iP2, iD1, jP2, jD2, iN, iS2, iL, iX, ib, ic, isl, ho.1, ho2.1, i3, er.2⟩
theorem xjx_year : xmi 75 = some (yX6_year, cX6_year, 6, 1, 1, 1, 1, 0, 0, xt75) := rfl
theorem xjm_year : xmi 191 = some (yX7_year, cX7_year, 7, 1, 1, 1, 1, 0, 0, xt191) := rfl
theorem lc_year (hE : lEnv p l e s m b c D cA xa fm) (hI : lW s b D cA fm xs L adx adm hC hM i0 H locs ls cells slots) (hi : i0 + 6 ≤ L) (K : ∀ (gC gM : dH) (H2 : Heap) (locs2 : List Loc), lW s b D cA fm xs L adx adm gC gM i0 H2 locs2 ls cells slots → W p l e room_1 s m #[Value.ref b] below meth c H2 locs2 cells slots (lw_Z below #[Value.ref b] s) (F0 m 1166 ls [])) : W p l e room_1 s m #[Value.ref b] below meth c H locs cells slots (lw_Z below #[Value.ref b] s) (F0 m 439 ls []) := by
  obtain ⟨iP, iD, jP, jD, iN, iS, iL, iX, ib, ic, isl, iC, iM, i3, iR⟩ := hI
  have g0 := iL.2.2 (0, .ref b) (by simp)
  have g1 := iL.2.2 (1, .ref (adx 0)) (by simp)
  have g2 := iL.2.2 (2, .ref (adm 0)) (by simp)
  have g3 := iL.2.2 (3, .int (Int32.ofNat i0)) (by simp)
  refine lv_aload_n (pc := 439) (x := adx 0) hE.1 hE.2.1 dL_law_439 rfl g1 ?_
  refine law_op (pc := 440) (as' := []) (av := []) (ad := adx) (ad2 := adm) (C2 := dC shM hM) hE shC_sc hbC atC0 xjx_year ⟨rfl, rfl, rfl, rfl, by decide, rfl⟩ (m_X6_year (by decide)  hC) (s_X6_year hC iC ) (fun _ => rfl) iP iD jP (fun i hi k hk => iN i hi k (by rw [dC_len] at hk; exact hk)) iS iL.1 (by decide) ⟨ic, isl⟩ dL_law_440 (kr_31 _ (List.mem_of_getElem? (i := 2) rfl)) (fun o ho he ad1 H1 locs1 iP1 iD1 jP1 iS1 => ?_)
  refine lv_pop (pc := 443) (va := .int o.1) (rest := []) hE.1 hE.2.1 dL_law_443 rfl ?_
  refine lv_aload_n (pc := 444) (x := adm 0) (rest := []) hE.1 hE.2.1 dL_law_444 rfl g2 ?_
  refine law_op (pc := 445) (rest := []) (as' := []) (av := []) (ad := adm) (ad2 := adx) (C2 := dC shC o.2) hE shM_sc hbM atM0 xjm_year ⟨rfl, rfl, rfl, rfl, by decide, rfl⟩ (m_X7_year (by decide)  hM) (s_X7_year hM iM ) (fun _ => rfl) jP1 jD iP1 (fun i hi k hk => (iN k (by rw [dC_len] at hk; exact hk) i hi).symm) iS1 iL.1 (by decide) ⟨ic, isl⟩ dL_law_445 (kr_31 _ (List.mem_of_getElem? (i := 12) rfl)) (fun o2 ho2 he2 ad2 H2 locs2 jP2 jD2 iP2 iS2 => ?_)
  have er := op_year iR  o he o2 he2
  refine lv_pop (pc := 448) (va := .int o2.1) (rest := []) hE.1 hE.2.1 dL_law_448 rfl ?_
  refine lv_goto (pc := 449) (tgt := 1166) hE.1 hE.2.1 dL_law_449 rfl ?_
  exact K o.2 o2.2 _ _ ⟨iP2, iD1, jP2, jD2, iN, iS2, iL, iX, ib, ic, isl, ho.1, ho2.1, i3, er.2⟩
theorem xjx_street : xmi 76 = some (yX6_street, cX6_street, 6, 2, 2, 1, 1, 0, 0, xt76) := rfl
theorem xjm_street : xmi 201 = some (yX7_street, cX7_street, 7, 2, 2, 1, 1, 0, 0, xt201) := rfl
theorem lc_street (hE : lEnv p l e s m b c D cA xa fm) (hI : lW s b D cA fm xs L adx adm hC hM i0 H locs ls cells slots) (hi : i0 + 6 ≤ L) (K : ∀ (gC gM : dH) (H2 : Heap) (locs2 : List Loc), lW s b D cA fm xs L adx adm gC gM i0 H2 locs2 ls cells slots → W p l e room_1 s m #[Value.ref b] below meth c H2 locs2 cells slots (lw_Z below #[Value.ref b] s) (F0 m 1166 ls [])) : W p l e room_1 s m #[Value.ref b] below meth c H locs cells slots (lw_Z below #[Value.ref b] s) (F0 m 452 ls []) := by
  obtain ⟨iP, iD, jP, jD, iN, iS, iL, iX, ib, ic, isl, iC, iM, i3, iR⟩ := hI
  have g0 := iL.2.2 (0, .ref b) (by simp)
  have g1 := iL.2.2 (1, .ref (adx 0)) (by simp)
  have g2 := iL.2.2 (2, .ref (adm 0)) (by simp)
  have g3 := iL.2.2 (3, .int (Int32.ofNat i0)) (by simp)
  refine lv_aload_n (pc := 452) (x := adx 0) hE.1 hE.2.1 dL_law_452 rfl g1 ?_
  refine law_arg (pc := 453) hE iX i3 ib iS g0 g3 (i := 1) (by omega) (by decide) dL_law_453 dL_law_454 dL_law_455 dL_law_456 dL_law_457 ?_
  refine law_op (pc := 458) (as' := [.int (xs (i0 + 1))]) (av := [.int (xs (i0 + 1))]) (ad := adx) (ad2 := adm) (C2 := dC shM hM) hE shC_sc hbC atC0 xjx_street ⟨rfl, rfl, rfl, rfl, by decide, rfl⟩ (m_X6_street (by decide) (xs (i0 + 1)) hC) (s_X6_street hC iC (xs (i0 + 1))) (fun _ => rfl) iP iD jP (fun i hi k hk => iN i hi k (by rw [dC_len] at hk; exact hk)) iS iL.1 (by decide) ⟨ic, isl⟩ dL_law_458 (kr_31 _ (List.mem_of_getElem? (i := 20) rfl)) (fun o ho he ad1 H1 locs1 iP1 iD1 jP1 iS1 => ?_)
  refine lv_pop (pc := 461) (va := .int o.1) (rest := []) hE.1 hE.2.1 dL_law_461 rfl ?_
  refine lv_aload_n (pc := 462) (x := adm 0) (rest := []) hE.1 hE.2.1 dL_law_462 rfl g2 ?_
  refine law_arg (pc := 463) hE iX i3 ib iS1 g0 g3 (i := 1) (by omega) (by decide) dL_law_463 dL_law_464 dL_law_465 dL_law_466 dL_law_467 ?_
  refine law_op (pc := 468) (rest := []) (as' := [.int (xs (i0 + 1))]) (av := [.int (xs (i0 + 1))]) (ad := adm) (ad2 := adx) (C2 := dC shC o.2) hE shM_sc hbM atM0 xjm_street ⟨rfl, rfl, rfl, rfl, by decide, rfl⟩ (m_X7_street (by decide) (xs (i0 + 1)) hM) (s_X7_street hM iM (xs (i0 + 1))) (fun _ => rfl) jP1 jD iP1 (fun i hi k hk => (iN k (by rw [dC_len] at hk; exact hk) i hi).symm) iS1 iL.1 (by decide) ⟨ic, isl⟩ dL_law_468 (kr_34 _ (List.mem_of_getElem? (i := 13) rfl)) (fun o2 ho2 he2 ad2 H2 locs2 jP2 jD2 iP2 iS2 => ?_)
  have er := op_street iR (xs (i0 + 1)) o he o2 he2
  refine lv_pop (pc := 471) (va := .int o2.1) (rest := []) hE.1 hE.2.1 dL_law_471 rfl ?_
  refine lv_goto (pc := 472) (tgt := 1166) hE.1 hE.2.1 dL_law_472 rfl ?_
  exact K o.2 o2.2 _ _ ⟨iP2, iD1, jP2, jD2, iN, iS2, iL, iX, ib, ic, isl, ho.1, ho2.1, i3, er.2⟩
theorem xjx_way : xmi 77 = some (yX6_way, cX6_way, 6, 3, 3, 1, 1, 0, 0, xt77) := rfl
theorem xjm_way : xmi 202 = some (yX7_way, cX7_way, 7, 3, 3, 1, 1, 0, 0, xt202) := rfl
theorem lc_way (hE : lEnv p l e s m b c D cA xa fm) (hI : lW s b D cA fm xs L adx adm hC hM i0 H locs ls cells slots) (hi : i0 + 6 ≤ L) (K : ∀ (gC gM : dH) (H2 : Heap) (locs2 : List Loc), lW s b D cA fm xs L adx adm gC gM i0 H2 locs2 ls cells slots → W p l e room_1 s m #[Value.ref b] below meth c H2 locs2 cells slots (lw_Z below #[Value.ref b] s) (F0 m 1166 ls [])) : W p l e room_1 s m #[Value.ref b] below meth c H locs cells slots (lw_Z below #[Value.ref b] s) (F0 m 475 ls []) := by
  obtain ⟨iP, iD, jP, jD, iN, iS, iL, iX, ib, ic, isl, iC, iM, i3, iR⟩ := hI
  have g0 := iL.2.2 (0, .ref b) (by simp)
  have g1 := iL.2.2 (1, .ref (adx 0)) (by simp)
  have g2 := iL.2.2 (2, .ref (adm 0)) (by simp)
  have g3 := iL.2.2 (3, .int (Int32.ofNat i0)) (by simp)
  refine lv_aload_n (pc := 475) (x := adx 0) hE.1 hE.2.1 dL_law_475 rfl g1 ?_
  refine law_arg (pc := 476) hE iX i3 ib iS g0 g3 (i := 1) (by omega) (by decide) dL_law_476 dL_law_477 dL_law_478 dL_law_479 dL_law_480 ?_
  refine law_arg (pc := 481) hE iX i3 ib iS g0 g3 (i := 2) (by omega) (by decide) dL_law_481 dL_law_482 dL_law_483 dL_law_484 dL_law_485 ?_
  refine law_op (pc := 486) (as' := [.int (xs (i0 + 1)), .int (xs (i0 + 2))]) (av := [.int (xs (i0 + 1)), .int (xs (i0 + 2))]) (ad := adx) (ad2 := adm) (C2 := dC shM hM) hE shC_sc hbC atC0 xjx_way ⟨rfl, rfl, rfl, rfl, by decide, rfl⟩ (m_X6_way (by decide) (xs (i0 + 1)) (xs (i0 + 2)) hC) (s_X6_way hC iC (xs (i0 + 1)) (xs (i0 + 2))) (fun _ => rfl) iP iD jP (fun i hi k hk => iN i hi k (by rw [dC_len] at hk; exact hk)) iS iL.1 (by decide) ⟨ic, isl⟩ dL_law_486 (kr_35 _ (List.mem_of_getElem? (i := 21) rfl)) (fun o ho he ad1 H1 locs1 iP1 iD1 jP1 iS1 => ?_)
  refine lv_pop (pc := 489) (va := .int o.1) (rest := []) hE.1 hE.2.1 dL_law_489 rfl ?_
  refine lv_aload_n (pc := 490) (x := adm 0) (rest := []) hE.1 hE.2.1 dL_law_490 rfl g2 ?_
  refine law_arg (pc := 491) hE iX i3 ib iS1 g0 g3 (i := 1) (by omega) (by decide) dL_law_491 dL_law_492 dL_law_493 dL_law_494 dL_law_495 ?_
  refine law_arg (pc := 496) hE iX i3 ib iS1 g0 g3 (i := 2) (by omega) (by decide) dL_law_496 dL_law_497 dL_law_498 dL_law_499 dL_law_500 ?_
  refine law_op (pc := 501) (rest := []) (as' := [.int (xs (i0 + 1)), .int (xs (i0 + 2))]) (av := [.int (xs (i0 + 1)), .int (xs (i0 + 2))]) (ad := adm) (ad2 := adx) (C2 := dC shC o.2) hE shM_sc hbM atM0 xjm_way ⟨rfl, rfl, rfl, rfl, by decide, rfl⟩ (m_X7_way (by decide) (xs (i0 + 1)) (xs (i0 + 2)) hM) (s_X7_way hM iM (xs (i0 + 1)) (xs (i0 + 2))) (fun _ => rfl) jP1 jD iP1 (fun i hi k hk => (iN k (by rw [dC_len] at hk; exact hk) i hi).symm) iS1 iL.1 (by decide) ⟨ic, isl⟩ dL_law_501 (kr_36 _ (List.mem_of_getElem? (i := 2) rfl)) (fun o2 ho2 he2 ad2 H2 locs2 jP2 jD2 iP2 iS2 => ?_)
  have er := op_way iR (xs (i0 + 1)) (xs (i0 + 2)) o he o2 he2
  refine lv_pop (pc := 504) (va := .int o2.1) (rest := []) hE.1 hE.2.1 dL_law_504 rfl ?_
  refine lv_goto (pc := 505) (tgt := 1166) hE.1 hE.2.1 dL_law_505 rfl ?_
  exact K o.2 o2.2 _ _ ⟨iP2, iD1, jP2, jD2, iN, iS2, iL, iX, ib, ic, isl, ho.1, ho2.1, i3, er.2⟩
theorem xjx_run : xmi 78 = some (yX6_run, cX6_run, 6, 3, 3, 1, 1, 0, 0, xt78) := rfl
theorem xjm_run : xmi 206 = some (yX7_run, cX7_run, 7, 3, 4, 1, 1, 0, 0, xt206) := rfl
theorem lc_run (hE : lEnv p l e s m b c D cA xa fm) (hI : lW s b D cA fm xs L adx adm hC hM i0 H locs ls cells slots) (hi : i0 + 6 ≤ L) (K : ∀ (gC gM : dH) (H2 : Heap) (locs2 : List Loc), lW s b D cA fm xs L adx adm gC gM i0 H2 locs2 ls cells slots → W p l e room_1 s m #[Value.ref b] below meth c H2 locs2 cells slots (lw_Z below #[Value.ref b] s) (F0 m 1166 ls [])) : W p l e room_1 s m #[Value.ref b] below meth c H locs cells slots (lw_Z below #[Value.ref b] s) (F0 m 508 ls []) := by
  obtain ⟨iP, iD, jP, jD, iN, iS, iL, iX, ib, ic, isl, iC, iM, i3, iR⟩ := hI
  have g0 := iL.2.2 (0, .ref b) (by simp)
  have g1 := iL.2.2 (1, .ref (adx 0)) (by simp)
  have g2 := iL.2.2 (2, .ref (adm 0)) (by simp)
  have g3 := iL.2.2 (3, .int (Int32.ofNat i0)) (by simp)
  refine lv_aload_n (pc := 508) (x := adx 0) hE.1 hE.2.1 dL_law_508 rfl g1 ?_
  refine law_arg (pc := 509) hE iX i3 ib iS g0 g3 (i := 1) (by omega) (by decide) dL_law_509 dL_law_510 dL_law_511 dL_law_512 dL_law_513 ?_
  refine law_arg (pc := 514) hE iX i3 ib iS g0 g3 (i := 2) (by omega) (by decide) dL_law_514 dL_law_515 dL_law_516 dL_law_517 dL_law_518 ?_
  refine law_op (pc := 519) (as' := [.int (xs (i0 + 1)), .int (xs (i0 + 2))]) (av := [.int (xs (i0 + 1)), .int (xs (i0 + 2))]) (ad := adx) (ad2 := adm) (C2 := dC shM hM) hE shC_sc hbC atC0 xjx_run ⟨rfl, rfl, rfl, rfl, by decide, rfl⟩ (m_X6_run (by decide) (xs (i0 + 1)) (xs (i0 + 2)) hC) (s_X6_run hC iC (xs (i0 + 1)) (xs (i0 + 2))) (fun _ => rfl) iP iD jP (fun i hi k hk => iN i hi k (by rw [dC_len] at hk; exact hk)) iS iL.1 (by decide) ⟨ic, isl⟩ dL_law_519 (kr_36 _ (List.mem_of_getElem? (i := 6) rfl)) (fun o ho he ad1 H1 locs1 iP1 iD1 jP1 iS1 => ?_)
  refine lv_pop (pc := 522) (va := .int o.1) (rest := []) hE.1 hE.2.1 dL_law_522 rfl ?_
  refine lv_aload_n (pc := 523) (x := adm 0) (rest := []) hE.1 hE.2.1 dL_law_523 rfl g2 ?_
  refine law_arg (pc := 524) hE iX i3 ib iS1 g0 g3 (i := 1) (by omega) (by decide) dL_law_524 dL_law_525 dL_law_526 dL_law_527 dL_law_528 ?_
  refine law_arg (pc := 529) hE iX i3 ib iS1 g0 g3 (i := 2) (by omega) (by decide) dL_law_529 dL_law_530 dL_law_531 dL_law_532 dL_law_533 ?_
  refine law_op (pc := 534) (rest := []) (as' := [.int (xs (i0 + 1)), .int (xs (i0 + 2))]) (av := [.int (xs (i0 + 1)), .int (xs (i0 + 2))]) (ad := adm) (ad2 := adx) (C2 := dC shC o.2) hE shM_sc hbM atM0 xjm_run ⟨rfl, rfl, rfl, rfl, by decide, rfl⟩ (m_X7_run (by decide) (xs (i0 + 1)) (xs (i0 + 2)) hM) (s_X7_run hM iM (xs (i0 + 1)) (xs (i0 + 2))) (fun _ => rfl) jP1 jD iP1 (fun i hi k hk => (iN k (by rw [dC_len] at hk; exact hk) i hi).symm) iS1 iL.1 (by decide) ⟨ic, isl⟩ dL_law_534 (kr_37 _ (List.mem_of_getElem? (i := 4) rfl)) (fun o2 ho2 he2 ad2 H2 locs2 jP2 jD2 iP2 iS2 => ?_)
  have er := op_run iR (xs (i0 + 1)) (xs (i0 + 2)) o he o2 he2
  refine lv_pop (pc := 537) (va := .int o2.1) (rest := []) hE.1 hE.2.1 dL_law_537 rfl ?_
  refine lv_goto (pc := 538) (tgt := 1166) hE.1 hE.2.1 dL_law_538 rfl ?_
  exact K o.2 o2.2 _ _ ⟨iP2, iD1, jP2, jD2, iN, iS2, iL, iX, ib, ic, isl, ho.1, ho2.1, i3, er.2⟩
theorem xjx_takes : xmi 79 = some (yX6_takes, cX6_takes, 6, 2, 4, 1, 1, 0, 0, xt79) := rfl
theorem xjm_takes : xmi 208 = some (yX7_takes, cX7_takes, 7, 2, 3, 1, 1, 0, 0, xt208) := rfl
theorem lc_takes (hE : lEnv p l e s m b c D cA xa fm) (hI : lW s b D cA fm xs L adx adm hC hM i0 H locs ls cells slots) (hi : i0 + 6 ≤ L) (K : ∀ (gC gM : dH) (H2 : Heap) (locs2 : List Loc), lW s b D cA fm xs L adx adm gC gM i0 H2 locs2 ls cells slots → W p l e room_1 s m #[Value.ref b] below meth c H2 locs2 cells slots (lw_Z below #[Value.ref b] s) (F0 m 1166 ls [])) : W p l e room_1 s m #[Value.ref b] below meth c H locs cells slots (lw_Z below #[Value.ref b] s) (F0 m 541 ls []) := by
  obtain ⟨iP, iD, jP, jD, iN, iS, iL, iX, ib, ic, isl, iC, iM, i3, iR⟩ := hI
  have g0 := iL.2.2 (0, .ref b) (by simp)
  have g1 := iL.2.2 (1, .ref (adx 0)) (by simp)
  have g2 := iL.2.2 (2, .ref (adm 0)) (by simp)
  have g3 := iL.2.2 (3, .int (Int32.ofNat i0)) (by simp)
  refine lv_aload_n (pc := 541) (x := adx 0) hE.1 hE.2.1 dL_law_541 rfl g1 ?_
  refine law_arg (pc := 542) hE iX i3 ib iS g0 g3 (i := 1) (by omega) (by decide) dL_law_542 dL_law_543 dL_law_544 dL_law_545 dL_law_546 ?_
  refine law_op (pc := 547) (as' := [.int (xs (i0 + 1))]) (av := [.int (xs (i0 + 1))]) (ad := adx) (ad2 := adm) (C2 := dC shM hM) hE shC_sc hbC atC0 xjx_takes ⟨rfl, rfl, rfl, rfl, by decide, rfl⟩ (m_X6_takes (by decide) (xs (i0 + 1)) hC) (s_X6_takes hC iC (xs (i0 + 1))) (fun _ => rfl) iP iD jP (fun i hi k hk => iN i hi k (by rw [dC_len] at hk; exact hk)) iS iL.1 (by decide) ⟨ic, isl⟩ dL_law_547 (kr_37 _ (List.mem_of_getElem? (i := 23) rfl)) (fun o ho he ad1 H1 locs1 iP1 iD1 jP1 iS1 => ?_)
  refine lv_pop (pc := 550) (va := .int o.1) (rest := []) hE.1 hE.2.1 dL_law_550 rfl ?_
  refine lv_aload_n (pc := 551) (x := adm 0) (rest := []) hE.1 hE.2.1 dL_law_551 rfl g2 ?_
  refine law_arg (pc := 552) hE iX i3 ib iS1 g0 g3 (i := 1) (by omega) (by decide) dL_law_552 dL_law_553 dL_law_554 dL_law_555 dL_law_556 ?_
  refine law_op (pc := 557) (rest := []) (as' := [.int (xs (i0 + 1))]) (av := [.int (xs (i0 + 1))]) (ad := adm) (ad2 := adx) (C2 := dC shC o.2) hE shM_sc hbM atM0 xjm_takes ⟨rfl, rfl, rfl, rfl, by decide, rfl⟩ (m_X7_takes (by decide) (xs (i0 + 1)) hM) (s_X7_takes hM iM (xs (i0 + 1))) (fun _ => rfl) jP1 jD iP1 (fun i hi k hk => (iN k (by rw [dC_len] at hk; exact hk) i hi).symm) iS1 iL.1 (by decide) ⟨ic, isl⟩ dL_law_557 (kr_38 _ (List.mem_of_getElem? (i := 6) rfl)) (fun o2 ho2 he2 ad2 H2 locs2 jP2 jD2 iP2 iS2 => ?_)
  have er := op_takes iR (xs (i0 + 1)) o he o2 he2
  refine lv_pop (pc := 560) (va := .int o2.1) (rest := []) hE.1 hE.2.1 dL_law_560 rfl ?_
  refine lv_goto (pc := 561) (tgt := 1166) hE.1 hE.2.1 dL_law_561 rfl ?_
  exact K o.2 o2.2 _ _ ⟨iP2, iD1, jP2, jD2, iN, iS2, iL, iX, ib, ic, isl, ho.1, ho2.1, i3, er.2⟩
theorem xjx_best : xmi 80 = some (yX6_best, cX6_best, 6, 4, 8, 1, 1, 0, 0, xt80) := rfl
theorem xjm_best : xmi 209 = some (yX7_best, cX7_best, 7, 4, 9, 1, 1, 0, 0, xt209) := rfl
theorem lc_best (hE : lEnv p l e s m b c D cA xa fm) (hI : lW s b D cA fm xs L adx adm hC hM i0 H locs ls cells slots) (hi : i0 + 6 ≤ L) (K : ∀ (gC gM : dH) (H2 : Heap) (locs2 : List Loc), lW s b D cA fm xs L adx adm gC gM i0 H2 locs2 ls cells slots → W p l e room_1 s m #[Value.ref b] below meth c H2 locs2 cells slots (lw_Z below #[Value.ref b] s) (F0 m 1166 ls [])) : W p l e room_1 s m #[Value.ref b] below meth c H locs cells slots (lw_Z below #[Value.ref b] s) (F0 m 564 ls []) := by
  obtain ⟨iP, iD, jP, jD, iN, iS, iL, iX, ib, ic, isl, iC, iM, i3, iR⟩ := hI
  have g0 := iL.2.2 (0, .ref b) (by simp)
  have g1 := iL.2.2 (1, .ref (adx 0)) (by simp)
  have g2 := iL.2.2 (2, .ref (adm 0)) (by simp)
  have g3 := iL.2.2 (3, .int (Int32.ofNat i0)) (by simp)
  refine lv_aload_n (pc := 564) (x := adx 0) hE.1 hE.2.1 dL_law_564 rfl g1 ?_
  refine law_arg (pc := 565) hE iX i3 ib iS g0 g3 (i := 1) (by omega) (by decide) dL_law_565 dL_law_566 dL_law_567 dL_law_568 dL_law_569 ?_
  refine law_arg (pc := 570) hE iX i3 ib iS g0 g3 (i := 2) (by omega) (by decide) dL_law_570 dL_law_571 dL_law_572 dL_law_573 dL_law_574 ?_
  refine law_arg (pc := 575) hE iX i3 ib iS g0 g3 (i := 3) (by omega) (by decide) dL_law_575 dL_law_576 dL_law_577 dL_law_578 dL_law_579 ?_
  refine law_op (pc := 580) (as' := [.int (xs (i0 + 1)), .int (xs (i0 + 2)), .int (xs (i0 + 3))]) (av := [.int (xs (i0 + 1)), .int (xs (i0 + 2)), .int (xs (i0 + 3))]) (ad := adx) (ad2 := adm) (C2 := dC shM hM) hE shC_sc hbC atC0 xjx_best ⟨rfl, rfl, rfl, rfl, by decide, rfl⟩ (m_X6_best (by decide) (xs (i0 + 1)) (xs (i0 + 2)) (xs (i0 + 3)) hC) (s_X6_best hC iC (xs (i0 + 1)) (xs (i0 + 2)) (xs (i0 + 3))) (fun _ => rfl) iP iD jP (fun i hi k hk => iN i hi k (by rw [dC_len] at hk; exact hk)) iS iL.1 (by decide) ⟨ic, isl⟩ dL_law_580 (kr_38 _ (List.mem_of_getElem? (i := 11) rfl)) (fun o ho he ad1 H1 locs1 iP1 iD1 jP1 iS1 => ?_)
  refine lv_pop (pc := 583) (va := .int o.1) (rest := []) hE.1 hE.2.1 dL_law_583 rfl ?_
  refine lv_aload_n (pc := 584) (x := adm 0) (rest := []) hE.1 hE.2.1 dL_law_584 rfl g2 ?_
  refine law_arg (pc := 585) hE iX i3 ib iS1 g0 g3 (i := 1) (by omega) (by decide) dL_law_585 dL_law_586 dL_law_587 dL_law_588 dL_law_589 ?_
  refine law_arg (pc := 590) hE iX i3 ib iS1 g0 g3 (i := 2) (by omega) (by decide) dL_law_590 dL_law_591 dL_law_592 dL_law_593 dL_law_594 ?_
  refine law_arg (pc := 595) hE iX i3 ib iS1 g0 g3 (i := 3) (by omega) (by decide) dL_law_595 dL_law_596 dL_law_597 dL_law_598 dL_law_599 ?_
  refine law_op (pc := 600) (rest := []) (as' := [.int (xs (i0 + 1)), .int (xs (i0 + 2)), .int (xs (i0 + 3))]) (av := [.int (xs (i0 + 1)), .int (xs (i0 + 2)), .int (xs (i0 + 3))]) (ad := adm) (ad2 := adx) (C2 := dC shC o.2) hE shM_sc hbM atM0 xjm_best ⟨rfl, rfl, rfl, rfl, by decide, rfl⟩ (m_X7_best (by decide) (xs (i0 + 1)) (xs (i0 + 2)) (xs (i0 + 3)) hM) (s_X7_best hM iM (xs (i0 + 1)) (xs (i0 + 2)) (xs (i0 + 3))) (fun _ => rfl) jP1 jD iP1 (fun i hi k hk => (iN k (by rw [dC_len] at hk; exact hk) i hi).symm) iS1 iL.1 (by decide) ⟨ic, isl⟩ dL_law_600 (kr_38 _ (List.mem_of_getElem? (i := 15) rfl)) (fun o2 ho2 he2 ad2 H2 locs2 jP2 jD2 iP2 iS2 => ?_)
  have er := op_best iR (xs (i0 + 1)) (xs (i0 + 2)) (xs (i0 + 3)) o he o2 he2
  refine lv_pop (pc := 603) (va := .int o2.1) (rest := []) hE.1 hE.2.1 dL_law_603 rfl ?_
  refine lv_goto (pc := 604) (tgt := 1166) hE.1 hE.2.1 dL_law_604 rfl ?_
  exact K o.2 o2.2 _ _ ⟨iP2, iD1, jP2, jD2, iN, iS2, iL, iX, ib, ic, isl, ho.1, ho2.1, i3, er.2⟩
theorem xjx_change : xmi 81 = some (yX6_change, cX6_change, 6, 3, 8, 1, 1, 0, 0, xt81) := rfl
theorem xjm_change : xmi 210 = some (yX7_change, cX7_change, 7, 3, 10, 1, 1, 0, 0, xt210) := rfl
theorem lc_change (hE : lEnv p l e s m b c D cA xa fm) (hI : lW s b D cA fm xs L adx adm hC hM i0 H locs ls cells slots) (hi : i0 + 6 ≤ L) (K : ∀ (gC gM : dH) (H2 : Heap) (locs2 : List Loc), lW s b D cA fm xs L adx adm gC gM i0 H2 locs2 ls cells slots → W p l e room_1 s m #[Value.ref b] below meth c H2 locs2 cells slots (lw_Z below #[Value.ref b] s) (F0 m 1166 ls [])) : W p l e room_1 s m #[Value.ref b] below meth c H locs cells slots (lw_Z below #[Value.ref b] s) (F0 m 607 ls []) := by
  obtain ⟨iP, iD, jP, jD, iN, iS, iL, iX, ib, ic, isl, iC, iM, i3, iR⟩ := hI
  have g0 := iL.2.2 (0, .ref b) (by simp)
  have g1 := iL.2.2 (1, .ref (adx 0)) (by simp)
  have g2 := iL.2.2 (2, .ref (adm 0)) (by simp)
  have g3 := iL.2.2 (3, .int (Int32.ofNat i0)) (by simp)
  refine lv_aload_n (pc := 607) (x := adx 0) hE.1 hE.2.1 dL_law_607 rfl g1 ?_
  refine law_arg (pc := 608) hE iX i3 ib iS g0 g3 (i := 1) (by omega) (by decide) dL_law_608 dL_law_609 dL_law_610 dL_law_611 dL_law_612 ?_
  refine law_arg (pc := 613) hE iX i3 ib iS g0 g3 (i := 2) (by omega) (by decide) dL_law_613 dL_law_614 dL_law_615 dL_law_616 dL_law_617 ?_
  refine law_op (pc := 618) (as' := [.int (xs (i0 + 1)), .int (xs (i0 + 2))]) (av := [.int (xs (i0 + 1)), .int (xs (i0 + 2))]) (ad := adx) (ad2 := adm) (C2 := dC shM hM) hE shC_sc hbC atC0 xjx_change ⟨rfl, rfl, rfl, rfl, by decide, rfl⟩ (m_X6_change (by decide) (xs (i0 + 1)) (xs (i0 + 2)) hC) (s_X6_change hC iC (xs (i0 + 1)) (xs (i0 + 2))) (fun _ => rfl) iP iD jP (fun i hi k hk => iN i hi k (by rw [dC_len] at hk; exact hk)) iS iL.1 (by decide) ⟨ic, isl⟩ dL_law_618 (kr_38 _ (List.mem_of_getElem? (i := 23) rfl)) (fun o ho he ad1 H1 locs1 iP1 iD1 jP1 iS1 => ?_)
  refine lv_pop (pc := 621) (va := .int o.1) (rest := []) hE.1 hE.2.1 dL_law_621 rfl ?_
  refine lv_aload_n (pc := 622) (x := adm 0) (rest := []) hE.1 hE.2.1 dL_law_622 rfl g2 ?_
  refine law_arg (pc := 623) hE iX i3 ib iS1 g0 g3 (i := 1) (by omega) (by decide) dL_law_623 dL_law_624 dL_law_625 dL_law_626 dL_law_627 ?_
  refine law_arg (pc := 628) hE iX i3 ib iS1 g0 g3 (i := 2) (by omega) (by decide) dL_law_628 dL_law_629 dL_law_630 dL_law_631 dL_law_632 ?_
  refine law_op (pc := 633) (rest := []) (as' := [.int (xs (i0 + 1)), .int (xs (i0 + 2))]) (av := [.int (xs (i0 + 1)), .int (xs (i0 + 2))]) (ad := adm) (ad2 := adx) (C2 := dC shC o.2) hE shM_sc hbM atM0 xjm_change ⟨rfl, rfl, rfl, rfl, by decide, rfl⟩ (m_X7_change (by decide) (xs (i0 + 1)) (xs (i0 + 2)) hM) (s_X7_change hM iM (xs (i0 + 1)) (xs (i0 + 2))) (fun _ => rfl) jP1 jD iP1 (fun i hi k hk => (iN k (by rw [dC_len] at hk; exact hk) i hi).symm) iS1 iL.1 (by decide) ⟨ic, isl⟩ dL_law_633 (kr_39 _ (List.mem_of_getElem? (i := 7) rfl)) (fun o2 ho2 he2 ad2 H2 locs2 jP2 jD2 iP2 iS2 => ?_)
  have er := op_change iR (xs (i0 + 1)) (xs (i0 + 2)) o he o2 he2
  refine lv_pop (pc := 636) (va := .int o2.1) (rest := []) hE.1 hE.2.1 dL_law_636 rfl ?_
  refine lv_goto (pc := 637) (tgt := 1166) hE.1 hE.2.1 dL_law_637 rfl ?_
  exact K o.2 o2.2 _ _ ⟨iP2, iD1, jP2, jD2, iN, iS2, iL, iX, ib, ic, isl, ho.1, ho2.1, i3, er.2⟩
theorem xjx_split : xmi 82 = some (yX6_split, cX6_split, 6, 3, 8, 1, 1, 0, 0, xt82) := rfl
theorem xjm_split : xmi 213 = some (yX7_split, cX7_split, 7, 3, 7, 1, 1, 0, 0, xt213) := rfl
theorem lc_split (hE : lEnv p l e s m b c D cA xa fm) (hI : lW s b D cA fm xs L adx adm hC hM i0 H locs ls cells slots) (hi : i0 + 6 ≤ L) (K : ∀ (gC gM : dH) (H2 : Heap) (locs2 : List Loc), lW s b D cA fm xs L adx adm gC gM i0 H2 locs2 ls cells slots → W p l e room_1 s m #[Value.ref b] below meth c H2 locs2 cells slots (lw_Z below #[Value.ref b] s) (F0 m 1166 ls [])) : W p l e room_1 s m #[Value.ref b] below meth c H locs cells slots (lw_Z below #[Value.ref b] s) (F0 m 640 ls []) := by
  obtain ⟨iP, iD, jP, jD, iN, iS, iL, iX, ib, ic, isl, iC, iM, i3, iR⟩ := hI
  have g0 := iL.2.2 (0, .ref b) (by simp)
  have g1 := iL.2.2 (1, .ref (adx 0)) (by simp)
  have g2 := iL.2.2 (2, .ref (adm 0)) (by simp)
  have g3 := iL.2.2 (3, .int (Int32.ofNat i0)) (by simp)
  refine lv_aload_n (pc := 640) (x := adx 0) hE.1 hE.2.1 dL_law_640 rfl g1 ?_
  refine law_arg (pc := 641) hE iX i3 ib iS g0 g3 (i := 1) (by omega) (by decide) dL_law_641 dL_law_642 dL_law_643 dL_law_644 dL_law_645 ?_
  refine law_arg (pc := 646) hE iX i3 ib iS g0 g3 (i := 2) (by omega) (by decide) dL_law_646 dL_law_647 dL_law_648 dL_law_649 dL_law_650 ?_
  refine law_op (pc := 651) (as' := [.int (xs (i0 + 1)), .int (xs (i0 + 2))]) (av := [.int (xs (i0 + 1)), .int (xs (i0 + 2))]) (ad := adx) (ad2 := adm) (C2 := dC shM hM) hE shC_sc hbC atC0 xjx_split ⟨rfl, rfl, rfl, rfl, by decide, rfl⟩ (m_X6_split (by decide) (xs (i0 + 1)) (xs (i0 + 2)) hC) (s_X6_split hC iC (xs (i0 + 1)) (xs (i0 + 2))) (fun _ => rfl) iP iD jP (fun i hi k hk => iN i hi k (by rw [dC_len] at hk; exact hk)) iS iL.1 (by decide) ⟨ic, isl⟩ dL_law_651 (kr_39 _ (List.mem_of_getElem? (i := 11) rfl)) (fun o ho he ad1 H1 locs1 iP1 iD1 jP1 iS1 => ?_)
  refine lv_pop (pc := 654) (va := .int o.1) (rest := []) hE.1 hE.2.1 dL_law_654 rfl ?_
  refine lv_aload_n (pc := 655) (x := adm 0) (rest := []) hE.1 hE.2.1 dL_law_655 rfl g2 ?_
  refine law_arg (pc := 656) hE iX i3 ib iS1 g0 g3 (i := 1) (by omega) (by decide) dL_law_656 dL_law_657 dL_law_658 dL_law_659 dL_law_660 ?_
  refine law_arg (pc := 661) hE iX i3 ib iS1 g0 g3 (i := 2) (by omega) (by decide) dL_law_661 dL_law_662 dL_law_663 dL_law_664 dL_law_665 ?_
  refine law_op (pc := 666) (rest := []) (as' := [.int (xs (i0 + 1)), .int (xs (i0 + 2))]) (av := [.int (xs (i0 + 1)), .int (xs (i0 + 2))]) (ad := adm) (ad2 := adx) (C2 := dC shC o.2) hE shM_sc hbM atM0 xjm_split ⟨rfl, rfl, rfl, rfl, by decide, rfl⟩ (m_X7_split (by decide) (xs (i0 + 1)) (xs (i0 + 2)) hM) (s_X7_split hM iM (xs (i0 + 1)) (xs (i0 + 2))) (fun _ => rfl) jP1 jD iP1 (fun i hi k hk => (iN k (by rw [dC_len] at hk; exact hk) i hi).symm) iS1 iL.1 (by decide) ⟨ic, isl⟩ dL_law_666 (kr_39 _ (List.mem_of_getElem? (i := 15) rfl)) (fun o2 ho2 he2 ad2 H2 locs2 jP2 jD2 iP2 iS2 => ?_)
  have er := op_split iR (xs (i0 + 1)) (xs (i0 + 2)) o he o2 he2
  refine lv_pop (pc := 669) (va := .int o2.1) (rest := []) hE.1 hE.2.1 dL_law_669 rfl ?_
  refine lv_goto (pc := 670) (tgt := 1166) hE.1 hE.2.1 dL_law_670 rfl ?_
  exact K o.2 o2.2 _ _ ⟨iP2, iD1, jP2, jD2, iN, iS2, iL, iX, ib, ic, isl, ho.1, ho2.1, i3, er.2⟩
theorem xjx_missed : xmi 83 = some (yX6_missed, cX6_missed, 6, 2, 6, 1, 1, 0, 0, xt83) := rfl
theorem xjm_missed : xmi 214 = some (yX7_missed, cX7_missed, 7, 2, 6, 1, 1, 0, 0, xt214) := rfl
theorem lc_missed (hE : lEnv p l e s m b c D cA xa fm) (hI : lW s b D cA fm xs L adx adm hC hM i0 H locs ls cells slots) (hi : i0 + 6 ≤ L) (K : ∀ (gC gM : dH) (H2 : Heap) (locs2 : List Loc), lW s b D cA fm xs L adx adm gC gM i0 H2 locs2 ls cells slots → W p l e room_1 s m #[Value.ref b] below meth c H2 locs2 cells slots (lw_Z below #[Value.ref b] s) (F0 m 1166 ls [])) : W p l e room_1 s m #[Value.ref b] below meth c H locs cells slots (lw_Z below #[Value.ref b] s) (F0 m 673 ls []) := by
  obtain ⟨iP, iD, jP, jD, iN, iS, iL, iX, ib, ic, isl, iC, iM, i3, iR⟩ := hI
  have g0 := iL.2.2 (0, .ref b) (by simp)
  have g1 := iL.2.2 (1, .ref (adx 0)) (by simp)
  have g2 := iL.2.2 (2, .ref (adm 0)) (by simp)
  have g3 := iL.2.2 (3, .int (Int32.ofNat i0)) (by simp)
  refine lv_aload_n (pc := 673) (x := adx 0) hE.1 hE.2.1 dL_law_673 rfl g1 ?_
  refine law_arg (pc := 674) hE iX i3 ib iS g0 g3 (i := 1) (by omega) (by decide) dL_law_674 dL_law_675 dL_law_676 dL_law_677 dL_law_678 ?_
  refine law_op (pc := 679) (as' := [.int (xs (i0 + 1))]) (av := [.int (xs (i0 + 1))]) (ad := adx) (ad2 := adm) (C2 := dC shM hM) hE shC_sc hbC atC0 xjx_missed ⟨rfl, rfl, rfl, rfl, by decide, rfl⟩ (m_X6_missed (by decide) (xs (i0 + 1)) hC) (s_X6_missed hC iC (xs (i0 + 1))) (fun _ => rfl) iP iD jP (fun i hi k hk => iN i hi k (by rw [dC_len] at hk; exact hk)) iS iL.1 (by decide) ⟨ic, isl⟩ dL_law_679 (kr_40 _ (List.mem_of_getElem? (i := 4) rfl)) (fun o ho he ad1 H1 locs1 iP1 iD1 jP1 iS1 => ?_)
  refine lv_pop (pc := 682) (va := .int o.1) (rest := []) hE.1 hE.2.1 dL_law_682 rfl ?_
  refine lv_aload_n (pc := 683) (x := adm 0) (rest := []) hE.1 hE.2.1 dL_law_683 rfl g2 ?_
  refine law_arg (pc := 684) hE iX i3 ib iS1 g0 g3 (i := 1) (by omega) (by decide) dL_law_684 dL_law_685 dL_law_686 dL_law_687 dL_law_688 ?_
  refine law_op (pc := 689) (rest := []) (as' := [.int (xs (i0 + 1))]) (av := [.int (xs (i0 + 1))]) (ad := adm) (ad2 := adx) (C2 := dC shC o.2) hE shM_sc hbM atM0 xjm_missed ⟨rfl, rfl, rfl, rfl, by decide, rfl⟩ (m_X7_missed (by decide) (xs (i0 + 1)) hM) (s_X7_missed hM iM (xs (i0 + 1))) (fun _ => rfl) jP1 jD iP1 (fun i hi k hk => (iN k (by rw [dC_len] at hk; exact hk) i hi).symm) iS1 iL.1 (by decide) ⟨ic, isl⟩ dL_law_689 (kr_40 _ (List.mem_of_getElem? (i := 8) rfl)) (fun o2 ho2 he2 ad2 H2 locs2 jP2 jD2 iP2 iS2 => ?_)
  have er := op_missed iR (xs (i0 + 1)) o he o2 he2
  refine lv_pop (pc := 692) (va := .int o2.1) (rest := []) hE.1 hE.2.1 dL_law_692 rfl ?_
  refine lv_goto (pc := 693) (tgt := 1166) hE.1 hE.2.1 dL_law_693 rfl ?_
  exact K o.2 o2.2 _ _ ⟨iP2, iD1, jP2, jD2, iN, iS2, iL, iX, ib, ic, isl, ho.1, ho2.1, i3, er.2⟩
theorem xjx_match : xmi 84 = some (yX6_match, cX6_match, 6, 2, 7, 1, 1, 0, 0, xt84) := rfl
theorem xjm_match : xmi 215 = some (yX7_match, cX7_match, 7, 2, 7, 1, 1, 0, 0, xt215) := rfl
theorem lc_match (hE : lEnv p l e s m b c D cA xa fm) (hI : lW s b D cA fm xs L adx adm hC hM i0 H locs ls cells slots) (hi : i0 + 6 ≤ L) (K : ∀ (gC gM : dH) (H2 : Heap) (locs2 : List Loc), lW s b D cA fm xs L adx adm gC gM i0 H2 locs2 ls cells slots → W p l e room_1 s m #[Value.ref b] below meth c H2 locs2 cells slots (lw_Z below #[Value.ref b] s) (F0 m 1166 ls [])) : W p l e room_1 s m #[Value.ref b] below meth c H locs cells slots (lw_Z below #[Value.ref b] s) (F0 m 696 ls []) := by
  obtain ⟨iP, iD, jP, jD, iN, iS, iL, iX, ib, ic, isl, iC, iM, i3, iR⟩ := hI
  have g0 := iL.2.2 (0, .ref b) (by simp)
  have g1 := iL.2.2 (1, .ref (adx 0)) (by simp)
  have g2 := iL.2.2 (2, .ref (adm 0)) (by simp)
  have g3 := iL.2.2 (3, .int (Int32.ofNat i0)) (by simp)
  refine lv_aload_n (pc := 696) (x := adx 0) hE.1 hE.2.1 dL_law_696 rfl g1 ?_
  refine law_arg (pc := 697) hE iX i3 ib iS g0 g3 (i := 1) (by omega) (by decide) dL_law_697 dL_law_698 dL_law_699 dL_law_700 dL_law_701 ?_
  refine law_op (pc := 702) (as' := [.int (xs (i0 + 1))]) (av := [.int (xs (i0 + 1))]) (ad := adx) (ad2 := adm) (C2 := dC shM hM) hE shC_sc hbC atC0 xjx_match ⟨rfl, rfl, rfl, rfl, by decide, rfl⟩ (m_X6_match (by decide) (xs (i0 + 1)) hC) (s_X6_match hC iC (xs (i0 + 1))) (fun _ => rfl) iP iD jP (fun i hi k hk => iN i hi k (by rw [dC_len] at hk; exact hk)) iS iL.1 (by decide) ⟨ic, isl⟩ dL_law_702 (kr_40 _ (List.mem_of_getElem? (i := 12) rfl)) (fun o ho he ad1 H1 locs1 iP1 iD1 jP1 iS1 => ?_)
  refine lv_pop (pc := 705) (va := .int o.1) (rest := []) hE.1 hE.2.1 dL_law_705 rfl ?_
  refine lv_aload_n (pc := 706) (x := adm 0) (rest := []) hE.1 hE.2.1 dL_law_706 rfl g2 ?_
  refine law_arg (pc := 707) hE iX i3 ib iS1 g0 g3 (i := 1) (by omega) (by decide) dL_law_707 dL_law_708 dL_law_709 dL_law_710 dL_law_711 ?_
  refine law_op (pc := 712) (rest := []) (as' := [.int (xs (i0 + 1))]) (av := [.int (xs (i0 + 1))]) (ad := adm) (ad2 := adx) (C2 := dC shC o.2) hE shM_sc hbM atM0 xjm_match ⟨rfl, rfl, rfl, rfl, by decide, rfl⟩ (m_X7_match (by decide) (xs (i0 + 1)) hM) (s_X7_match hM iM (xs (i0 + 1))) (fun _ => rfl) jP1 jD iP1 (fun i hi k hk => (iN k (by rw [dC_len] at hk; exact hk) i hi).symm) iS1 iL.1 (by decide) ⟨ic, isl⟩ dL_law_712 (kr_40 _ (List.mem_of_getElem? (i := 21) rfl)) (fun o2 ho2 he2 ad2 H2 locs2 jP2 jD2 iP2 iS2 => ?_)
  have er := op_match iR (xs (i0 + 1)) o he o2 he2
  refine lv_pop (pc := 715) (va := .int o2.1) (rest := []) hE.1 hE.2.1 dL_law_715 rfl ?_
  refine lv_goto (pc := 716) (tgt := 1166) hE.1 hE.2.1 dL_law_716 rfl ?_
  exact K o.2 o2.2 _ _ ⟨iP2, iD1, jP2, jD2, iN, iS2, iL, iX, ib, ic, isl, ho.1, ho2.1, i3, er.2⟩
theorem xjx_tells : xmi 85 = some (yX6_tells, cX6_tells, 6, 4, 5, 1, 1, 0, 0, xt85) := rfl
theorem xjm_tells : xmi 218 = some (yX7_tells, cX7_tells, 7, 4, 9, 1, 1, 0, 0, xt218) := rfl
theorem lc_tells (hE : lEnv p l e s m b c D cA xa fm) (hI : lW s b D cA fm xs L adx adm hC hM i0 H locs ls cells slots) (hi : i0 + 6 ≤ L) (K : ∀ (gC gM : dH) (H2 : Heap) (locs2 : List Loc), lW s b D cA fm xs L adx adm gC gM i0 H2 locs2 ls cells slots → W p l e room_1 s m #[Value.ref b] below meth c H2 locs2 cells slots (lw_Z below #[Value.ref b] s) (F0 m 1166 ls [])) : W p l e room_1 s m #[Value.ref b] below meth c H locs cells slots (lw_Z below #[Value.ref b] s) (F0 m 719 ls []) := by
  obtain ⟨iP, iD, jP, jD, iN, iS, iL, iX, ib, ic, isl, iC, iM, i3, iR⟩ := hI
  have g0 := iL.2.2 (0, .ref b) (by simp)
  have g1 := iL.2.2 (1, .ref (adx 0)) (by simp)
  have g2 := iL.2.2 (2, .ref (adm 0)) (by simp)
  have g3 := iL.2.2 (3, .int (Int32.ofNat i0)) (by simp)
  refine lv_aload_n (pc := 719) (x := adx 0) hE.1 hE.2.1 dL_law_719 rfl g1 ?_
  refine law_arg (pc := 720) hE iX i3 ib iS g0 g3 (i := 1) (by omega) (by decide) dL_law_720 dL_law_721 dL_law_722 dL_law_723 dL_law_724 ?_
  refine law_arg (pc := 725) hE iX i3 ib iS g0 g3 (i := 2) (by omega) (by decide) dL_law_725 dL_law_726 dL_law_727 dL_law_728 dL_law_729 ?_
  refine law_arg (pc := 730) hE iX i3 ib iS g0 g3 (i := 3) (by omega) (by decide) dL_law_730 dL_law_731 dL_law_732 dL_law_733 dL_law_734 ?_
  refine law_op (pc := 735) (as' := [.int (xs (i0 + 1)), .int (xs (i0 + 2)), .int (xs (i0 + 3))]) (av := [.int (xs (i0 + 1)), .int (xs (i0 + 2)), .int (xs (i0 + 3))]) (ad := adx) (ad2 := adm) (C2 := dC shM hM) hE shC_sc hbC atC0 xjx_tells ⟨rfl, rfl, rfl, rfl, by decide, rfl⟩ (m_X6_tells (by decide) (xs (i0 + 1)) (xs (i0 + 2)) (xs (i0 + 3)) hC) (s_X6_tells hC iC (xs (i0 + 1)) (xs (i0 + 2)) (xs (i0 + 3))) (fun _ => rfl) iP iD jP (fun i hi k hk => iN i hi k (by rw [dC_len] at hk; exact hk)) iS iL.1 (by decide) ⟨ic, isl⟩ dL_law_735 (kr_41 _ (List.mem_of_getElem? (i := 1) rfl)) (fun o ho he ad1 H1 locs1 iP1 iD1 jP1 iS1 => ?_)
  refine lv_pop (pc := 738) (va := .int o.1) (rest := []) hE.1 hE.2.1 dL_law_738 rfl ?_
  refine lv_aload_n (pc := 739) (x := adm 0) (rest := []) hE.1 hE.2.1 dL_law_739 rfl g2 ?_
  refine law_arg (pc := 740) hE iX i3 ib iS1 g0 g3 (i := 1) (by omega) (by decide) dL_law_740 dL_law_741 dL_law_742 dL_law_743 dL_law_744 ?_
  refine law_arg (pc := 745) hE iX i3 ib iS1 g0 g3 (i := 2) (by omega) (by decide) dL_law_745 dL_law_746 dL_law_747 dL_law_748 dL_law_749 ?_
  refine law_arg (pc := 750) hE iX i3 ib iS1 g0 g3 (i := 3) (by omega) (by decide) dL_law_750 dL_law_751 dL_law_752 dL_law_753 dL_law_754 ?_
  refine law_op (pc := 755) (rest := []) (as' := [.int (xs (i0 + 1)), .int (xs (i0 + 2)), .int (xs (i0 + 3))]) (av := [.int (xs (i0 + 1)), .int (xs (i0 + 2)), .int (xs (i0 + 3))]) (ad := adm) (ad2 := adx) (C2 := dC shC o.2) hE shM_sc hbM atM0 xjm_tells ⟨rfl, rfl, rfl, rfl, by decide, rfl⟩ (m_X7_tells (by decide) (xs (i0 + 1)) (xs (i0 + 2)) (xs (i0 + 3)) hM) (s_X7_tells hM iM (xs (i0 + 1)) (xs (i0 + 2)) (xs (i0 + 3))) (fun _ => rfl) jP1 jD iP1 (fun i hi k hk => (iN k (by rw [dC_len] at hk; exact hk) i hi).symm) iS1 iL.1 (by decide) ⟨ic, isl⟩ dL_law_755 (kr_42 _ (List.mem_of_getElem? (i := 23) rfl)) (fun o2 ho2 he2 ad2 H2 locs2 jP2 jD2 iP2 iS2 => ?_)
  have er := op_tells iR (xs (i0 + 1)) (xs (i0 + 2)) (xs (i0 + 3)) o he o2 he2
  refine lv_pop (pc := 758) (va := .int o2.1) (rest := []) hE.1 hE.2.1 dL_law_758 rfl ?_
  refine lv_goto (pc := 759) (tgt := 1166) hE.1 hE.2.1 dL_law_759 rfl ?_
  exact K o.2 o2.2 _ _ ⟨iP2, iD1, jP2, jD2, iN, iS2, iL, iX, ib, ic, isl, ho.1, ho2.1, i3, er⟩
theorem xjx_film : xmi 86 = some (yX6_film, cX6_film, 6, 3, 5, 1, 1, 0, 0, xt86) := rfl
theorem xjm_film : xmi 219 = some (yX7_film, cX7_film, 7, 3, 4, 1, 1, 0, 0, xt219) := rfl
theorem lc_film (hE : lEnv p l e s m b c D cA xa fm) (hI : lW s b D cA fm xs L adx adm hC hM i0 H locs ls cells slots) (hi : i0 + 6 ≤ L) (K : ∀ (gC gM : dH) (H2 : Heap) (locs2 : List Loc), lW s b D cA fm xs L adx adm gC gM i0 H2 locs2 ls cells slots → W p l e room_1 s m #[Value.ref b] below meth c H2 locs2 cells slots (lw_Z below #[Value.ref b] s) (F0 m 1166 ls [])) : W p l e room_1 s m #[Value.ref b] below meth c H locs cells slots (lw_Z below #[Value.ref b] s) (F0 m 762 ls []) := by
  obtain ⟨iP, iD, jP, jD, iN, iS, iL, iX, ib, ic, isl, iC, iM, i3, iR⟩ := hI
  have g0 := iL.2.2 (0, .ref b) (by simp)
  have g1 := iL.2.2 (1, .ref (adx 0)) (by simp)
  have g2 := iL.2.2 (2, .ref (adm 0)) (by simp)
  have g3 := iL.2.2 (3, .int (Int32.ofNat i0)) (by simp)
  refine lv_aload_n (pc := 762) (x := adx 0) hE.1 hE.2.1 dL_law_762 rfl g1 ?_
  refine law_arg (pc := 763) hE iX i3 ib iS g0 g3 (i := 1) (by omega) (by decide) dL_law_763 dL_law_764 dL_law_765 dL_law_766 dL_law_767 ?_
  refine law_arg (pc := 768) hE iX i3 ib iS g0 g3 (i := 2) (by omega) (by decide) dL_law_768 dL_law_769 dL_law_770 dL_law_771 dL_law_772 ?_
  refine law_op (pc := 773) (as' := [.int (xs (i0 + 1)), .int (xs (i0 + 2))]) (av := [.int (xs (i0 + 1)), .int (xs (i0 + 2))]) (ad := adx) (ad2 := adm) (C2 := dC shM hM) hE shC_sc hbC atC0 xjx_film ⟨rfl, rfl, rfl, rfl, by decide, rfl⟩ (m_X6_film (by decide) (xs (i0 + 1)) (xs (i0 + 2)) hC) (s_X6_film hC iC (xs (i0 + 1)) (xs (i0 + 2))) (fun _ => rfl) iP iD jP (fun i hi k hk => iN i hi k (by rw [dC_len] at hk; exact hk)) iS iL.1 (by decide) ⟨ic, isl⟩ dL_law_773 (kr_43 _ (List.mem_of_getElem? (i := 15) rfl)) (fun o ho he ad1 H1 locs1 iP1 iD1 jP1 iS1 => ?_)
  refine lv_pop (pc := 776) (va := .int o.1) (rest := []) hE.1 hE.2.1 dL_law_776 rfl ?_
  refine lv_aload_n (pc := 777) (x := adm 0) (rest := []) hE.1 hE.2.1 dL_law_777 rfl g2 ?_
  refine law_arg (pc := 778) hE iX i3 ib iS1 g0 g3 (i := 1) (by omega) (by decide) dL_law_778 dL_law_779 dL_law_780 dL_law_781 dL_law_782 ?_
  refine law_arg (pc := 783) hE iX i3 ib iS1 g0 g3 (i := 2) (by omega) (by decide) dL_law_783 dL_law_784 dL_law_785 dL_law_786 dL_law_787 ?_
  refine law_op (pc := 788) (rest := []) (as' := [.int (xs (i0 + 1)), .int (xs (i0 + 2))]) (av := [.int (xs (i0 + 1)), .int (xs (i0 + 2))]) (ad := adm) (ad2 := adx) (C2 := dC shC o.2) hE shM_sc hbM atM0 xjm_film ⟨rfl, rfl, rfl, rfl, by decide, rfl⟩ (m_X7_film (by decide) (xs (i0 + 1)) (xs (i0 + 2)) hM) (s_X7_film hM iM (xs (i0 + 1)) (xs (i0 + 2))) (fun _ => rfl) jP1 jD iP1 (fun i hi k hk => (iN k (by rw [dC_len] at hk; exact hk) i hi).symm) iS1 iL.1 (by decide) ⟨ic, isl⟩ dL_law_788 (kr_44 _ (List.mem_of_getElem? (i := 3) rfl)) (fun o2 ho2 he2 ad2 H2 locs2 jP2 jD2 iP2 iS2 => ?_)
  have er := op_film iR (xs (i0 + 1)) (xs (i0 + 2)) o he o2 he2
  refine lv_pop (pc := 791) (va := .int o2.1) (rest := []) hE.1 hE.2.1 dL_law_791 rfl ?_
  refine lv_goto (pc := 792) (tgt := 1166) hE.1 hE.2.1 dL_law_792 rfl ?_
  exact K o.2 o2.2 _ _ ⟨iP2, iD1, jP2, jD2, iN, iS2, iL, iX, ib, ic, isl, ho.1, ho2.1, i3, er.2⟩
theorem xjx_drawn : xmi 87 = some (yX6_drawn, cX6_drawn, 6, 3, 3, 1, 1, 0, 0, xt87) := rfl
theorem xjm_drawn : xmi 221 = some (yX7_drawn, cX7_drawn, 7, 3, 3, 1, 1, 0, 0, xt221) := rfl
theorem lc_drawn (hE : lEnv p l e s m b c D cA xa fm) (hI : lW s b D cA fm xs L adx adm hC hM i0 H locs ls cells slots) (hi : i0 + 6 ≤ L) (K : ∀ (gC gM : dH) (H2 : Heap) (locs2 : List Loc), lW s b D cA fm xs L adx adm gC gM i0 H2 locs2 ls cells slots → W p l e room_1 s m #[Value.ref b] below meth c H2 locs2 cells slots (lw_Z below #[Value.ref b] s) (F0 m 1166 ls [])) : W p l e room_1 s m #[Value.ref b] below meth c H locs cells slots (lw_Z below #[Value.ref b] s) (F0 m 795 ls []) := by
  obtain ⟨iP, iD, jP, jD, iN, iS, iL, iX, ib, ic, isl, iC, iM, i3, iR⟩ := hI
  have g0 := iL.2.2 (0, .ref b) (by simp)
  have g1 := iL.2.2 (1, .ref (adx 0)) (by simp)
  have g2 := iL.2.2 (2, .ref (adm 0)) (by simp)
  have g3 := iL.2.2 (3, .int (Int32.ofNat i0)) (by simp)
  refine lv_aload_n (pc := 795) (x := adx 0) hE.1 hE.2.1 dL_law_795 rfl g1 ?_
  refine law_arg (pc := 796) hE iX i3 ib iS g0 g3 (i := 1) (by omega) (by decide) dL_law_796 dL_law_797 dL_law_798 dL_law_799 dL_law_800 ?_
  refine law_arg (pc := 801) hE iX i3 ib iS g0 g3 (i := 2) (by omega) (by decide) dL_law_801 dL_law_802 dL_law_803 dL_law_804 dL_law_805 ?_
  refine law_op (pc := 806) (as' := [.int (xs (i0 + 1)), .int (xs (i0 + 2))]) (av := [.int (xs (i0 + 1)), .int (xs (i0 + 2))]) (ad := adx) (ad2 := adm) (C2 := dC shM hM) hE shC_sc hbC atC0 xjx_drawn ⟨rfl, rfl, rfl, rfl, by decide, rfl⟩ (m_X6_drawn (by decide) (xs (i0 + 1)) (xs (i0 + 2)) hC) (s_X6_drawn hC iC (xs (i0 + 1)) (xs (i0 + 2))) (fun _ => rfl) iP iD jP (fun i hi k hk => iN i hi k (by rw [dC_len] at hk; exact hk)) iS iL.1 (by decide) ⟨ic, isl⟩ dL_law_806 (kr_44 _ (List.mem_of_getElem? (i := 11) rfl)) (fun o ho he ad1 H1 locs1 iP1 iD1 jP1 iS1 => ?_)
  refine lv_pop (pc := 809) (va := .int o.1) (rest := []) hE.1 hE.2.1 dL_law_809 rfl ?_
  refine lv_aload_n (pc := 810) (x := adm 0) (rest := []) hE.1 hE.2.1 dL_law_810 rfl g2 ?_
  refine law_arg (pc := 811) hE iX i3 ib iS1 g0 g3 (i := 1) (by omega) (by decide) dL_law_811 dL_law_812 dL_law_813 dL_law_814 dL_law_815 ?_
  refine law_arg (pc := 816) hE iX i3 ib iS1 g0 g3 (i := 2) (by omega) (by decide) dL_law_816 dL_law_817 dL_law_818 dL_law_819 dL_law_820 ?_
  refine law_op (pc := 821) (rest := []) (as' := [.int (xs (i0 + 1)), .int (xs (i0 + 2))]) (av := [.int (xs (i0 + 1)), .int (xs (i0 + 2))]) (ad := adm) (ad2 := adx) (C2 := dC shC o.2) hE shM_sc hbM atM0 xjm_drawn ⟨rfl, rfl, rfl, rfl, by decide, rfl⟩ (m_X7_drawn (by decide) (xs (i0 + 1)) (xs (i0 + 2)) hM) (s_X7_drawn hM iM (xs (i0 + 1)) (xs (i0 + 2))) (fun _ => rfl) jP1 jD iP1 (fun i hi k hk => (iN k (by rw [dC_len] at hk; exact hk) i hi).symm) iS1 iL.1 (by decide) ⟨ic, isl⟩ dL_law_821 (kr_44 _ (List.mem_of_getElem? (i := 20) rfl)) (fun o2 ho2 he2 ad2 H2 locs2 jP2 jD2 iP2 iS2 => ?_)
  have er := op_drawn iR (xs (i0 + 1)) (xs (i0 + 2)) o he o2 he2
  refine lv_pop (pc := 824) (va := .int o2.1) (rest := []) hE.1 hE.2.1 dL_law_824 rfl ?_
  refine lv_goto (pc := 825) (tgt := 1166) hE.1 hE.2.1 dL_law_825 rfl ?_
  exact K o.2 o2.2 _ _ ⟨iP2, iD1, jP2, jD2, iN, iS2, iL, iX, ib, ic, isl, ho.1, ho2.1, i3, er.2⟩
theorem xjx_chance : xmi 88 = some (yX6_chance, cX6_chance, 6, 5, 7, 2, 1, 0, 0, xt88) := rfl
theorem xjm_chance : xmi 222 = some (yX7_chance, cX7_chance, 7, 5, 13, 2, 1, 0, 0, xt222) := rfl
theorem lc_chance (hE : lEnv p l e s m b c D cA xa fm) (hI : lW s b D cA fm xs L adx adm hC hM i0 H locs ls cells slots) (hi : i0 + 6 ≤ L) (K : ∀ (gC gM : dH) (H2 : Heap) (locs2 : List Loc), lW s b D cA fm xs L adx adm gC gM i0 H2 locs2 ls cells slots → W p l e room_1 s m #[Value.ref b] below meth c H2 locs2 cells slots (lw_Z below #[Value.ref b] s) (F0 m 1166 ls [])) : W p l e room_1 s m #[Value.ref b] below meth c H locs cells slots (lw_Z below #[Value.ref b] s) (F0 m 828 ls []) := by
  obtain ⟨iP, iD, jP, jD, iN, iS, iL, iX, ib, ic, isl, iC, iM, i3, iR⟩ := hI
  have g0 := iL.2.2 (0, .ref b) (by simp)
  have g1 := iL.2.2 (1, .ref (adx 0)) (by simp)
  have g2 := iL.2.2 (2, .ref (adm 0)) (by simp)
  have g3 := iL.2.2 (3, .int (Int32.ofNat i0)) (by simp)
  refine lv_aload_n (pc := 828) (x := adx 0) hE.1 hE.2.1 dL_law_828 rfl g1 ?_
  refine law_arg (pc := 829) hE iX i3 ib iS g0 g3 (i := 1) (by omega) (by decide) dL_law_829 dL_law_830 dL_law_831 dL_law_832 dL_law_833 ?_
  refine law_arg (pc := 834) hE iX i3 ib iS g0 g3 (i := 2) (by omega) (by decide) dL_law_834 dL_law_835 dL_law_836 dL_law_837 dL_law_838 ?_
  refine law_arg (pc := 839) hE iX i3 ib iS g0 g3 (i := 3) (by omega) (by decide) dL_law_839 dL_law_840 dL_law_841 dL_law_842 dL_law_843 ?_
  refine law_arg (pc := 844) hE iX i3 ib iS g0 g3 (i := 4) (by omega) (by decide) dL_law_844 dL_law_845 dL_law_846 dL_law_847 dL_law_848 ?_
  refine law_op (pc := 849) (as' := [.int (xs (i0 + 1)), .int (xs (i0 + 2)), .int (xs (i0 + 3)), .int (xs (i0 + 4))]) (av := [.int (xs (i0 + 1)), .int (xs (i0 + 2)), .int (xs (i0 + 3)), .int (xs (i0 + 4))]) (ad := adx) (ad2 := adm) (C2 := dC shM hM) hE shC_sc hbC atC0 xjx_chance ⟨rfl, rfl, rfl, rfl, by decide, rfl⟩ (m_X6_chance (by decide) (xs (i0 + 1)) (xs (i0 + 2)) (xs (i0 + 3)) (xs (i0 + 4)) hC) (s_X6_chance hC iC (xs (i0 + 1)) (xs (i0 + 2)) (xs (i0 + 3)) (xs (i0 + 4))) (fun _ => rfl) iP iD jP (fun i hi k hk => iN i hi k (by rw [dC_len] at hk; exact hk)) iS iL.1 (by decide) ⟨ic, isl⟩ dL_law_849 (kr_45 _ (List.mem_of_getElem? (i := 5) rfl)) (fun o ho he ad1 H1 locs1 iP1 iD1 jP1 iS1 => ?_)
  refine lv_aload_n (pc := 852) (x := adm 0) (rest := [.long o.1]) hE.1 hE.2.1 dL_law_852 rfl g2 ?_
  refine law_arg (pc := 853) hE iX i3 ib iS1 g0 g3 (i := 1) (by omega) (by decide) dL_law_853 dL_law_854 dL_law_855 dL_law_856 dL_law_857 ?_
  refine law_arg (pc := 858) hE iX i3 ib iS1 g0 g3 (i := 2) (by omega) (by decide) dL_law_858 dL_law_859 dL_law_860 dL_law_861 dL_law_862 ?_
  refine law_arg (pc := 863) hE iX i3 ib iS1 g0 g3 (i := 3) (by omega) (by decide) dL_law_863 dL_law_864 dL_law_865 dL_law_866 dL_law_867 ?_
  refine law_arg (pc := 868) hE iX i3 ib iS1 g0 g3 (i := 4) (by omega) (by decide) dL_law_868 dL_law_869 dL_law_870 dL_law_871 dL_law_872 ?_
  refine law_op (pc := 873) (rest := [.long o.1]) (as' := [.int (xs (i0 + 1)), .int (xs (i0 + 2)), .int (xs (i0 + 3)), .int (xs (i0 + 4))]) (av := [.int (xs (i0 + 1)), .int (xs (i0 + 2)), .int (xs (i0 + 3)), .int (xs (i0 + 4))]) (ad := adm) (ad2 := adx) (C2 := dC shC o.2) hE shM_sc hbM atM0 xjm_chance ⟨rfl, rfl, rfl, rfl, by decide, rfl⟩ (m_X7_chance (by decide) (xs (i0 + 1)) (xs (i0 + 2)) (xs (i0 + 3)) (xs (i0 + 4)) hM) (s_X7_chance hM iM (xs (i0 + 1)) (xs (i0 + 2)) (xs (i0 + 3)) (xs (i0 + 4))) (fun _ => rfl) jP1 jD iP1 (fun i hi k hk => (iN k (by rw [dC_len] at hk; exact hk) i hi).symm) iS1 iL.1 (by show (2 : Nat) + 0 ≤ 8; decide) ⟨ic, isl⟩ dL_law_873 (kr_45 _ (List.mem_of_getElem? (i := 14) rfl)) (fun o2 ho2 he2 ad2 H2 locs2 jP2 jD2 iP2 iS2 => ?_)
  have er := op_chance iR (xs (i0 + 1)) (xs (i0 + 2)) (xs (i0 + 3)) (xs (i0 + 4)) o he o2 he2
  refine W.lcmp (x := o.1) (y := o2.1) (rest := []) hE.1 hE.2.1 dL_law_876 ?_
  refine lv_if_eq (pc := 877) (tgt := 1166) (rest := []) hE.1 hE.2.1 dL_law_877 rfl (fun _ => ?_) (fun z => absurd ((lg_cmp_eq o.1 o2.1).mpr er.1) z)
  exact K o.2 o2.2 _ _ ⟨iP2, iD1, jP2, jD2, iN, iS2, iL, iX, ib, ic, isl, ho.1, ho2.1, i3, er.2⟩
theorem xjx_image : xmi 89 = some (yX6_image, cX6_image, 6, 1, 1, 1, 1, 0, 0, xt89) := rfl
theorem xjm_image : xmi 223 = some (yX7_image, cX7_image, 7, 1, 2, 1, 1, 0, 0, xt223) := rfl
theorem lc_image (hE : lEnv p l e s m b c D cA xa fm) (hI : lW s b D cA fm xs L adx adm hC hM i0 H locs ls cells slots) (hi : i0 + 6 ≤ L) (K : ∀ (gC gM : dH) (H2 : Heap) (locs2 : List Loc), lW s b D cA fm xs L adx adm gC gM i0 H2 locs2 ls cells slots → W p l e room_1 s m #[Value.ref b] below meth c H2 locs2 cells slots (lw_Z below #[Value.ref b] s) (F0 m 1166 ls [])) : W p l e room_1 s m #[Value.ref b] below meth c H locs cells slots (lw_Z below #[Value.ref b] s) (F0 m 882 ls []) := by
  obtain ⟨iP, iD, jP, jD, iN, iS, iL, iX, ib, ic, isl, iC, iM, i3, iR⟩ := hI
  have g0 := iL.2.2 (0, .ref b) (by simp)
  have g1 := iL.2.2 (1, .ref (adx 0)) (by simp)
  have g2 := iL.2.2 (2, .ref (adm 0)) (by simp)
  have g3 := iL.2.2 (3, .int (Int32.ofNat i0)) (by simp)
  refine lv_aload_n (pc := 882) (x := adx 0) hE.1 hE.2.1 dL_law_882 rfl g1 ?_
  refine law_op (pc := 883) (as' := []) (av := []) (ad := adx) (ad2 := adm) (C2 := dC shM hM) hE shC_sc hbC atC0 xjx_image ⟨rfl, rfl, rfl, rfl, by decide, rfl⟩ (m_X6_image (by decide)  hC) (s_X6_image hC iC ) (fun _ => rfl) iP iD jP (fun i hi k hk => iN i hi k (by rw [dC_len] at hk; exact hk)) iS iL.1 (by decide) ⟨ic, isl⟩ dL_law_883 (kr_45 _ (List.mem_of_getElem? (i := 19) rfl)) (fun o ho he ad1 H1 locs1 iP1 iD1 jP1 iS1 => ?_)
  refine lv_pop (pc := 886) (va := .int o.1) (rest := []) hE.1 hE.2.1 dL_law_886 rfl ?_
  refine lv_aload_n (pc := 887) (x := adm 0) (rest := []) hE.1 hE.2.1 dL_law_887 rfl g2 ?_
  refine law_op (pc := 888) (rest := []) (as' := []) (av := []) (ad := adm) (ad2 := adx) (C2 := dC shC o.2) hE shM_sc hbM atM0 xjm_image ⟨rfl, rfl, rfl, rfl, by decide, rfl⟩ (m_X7_image (by decide)  hM) (s_X7_image hM iM ) (fun _ => rfl) jP1 jD iP1 (fun i hi k hk => (iN k (by rw [dC_len] at hk; exact hk) i hi).symm) iS1 iL.1 (by decide) ⟨ic, isl⟩ dL_law_888 (kr_46 _ (List.mem_of_getElem? (i := 0) rfl)) (fun o2 ho2 he2 ad2 H2 locs2 jP2 jD2 iP2 iS2 => ?_)
  have er := op_image iR  o he o2 he2
  refine lv_pop (pc := 891) (va := .int o2.1) (rest := []) hE.1 hE.2.1 dL_law_891 rfl ?_
  refine lv_goto (pc := 892) (tgt := 1166) hE.1 hE.2.1 dL_law_892 rfl ?_
  exact K o.2 o2.2 _ _ ⟨iP2, iD1, jP2, jD2, iN, iS2, iL, iX, ib, ic, isl, ho.1, ho2.1, i3, er.2⟩
theorem xjx_back : xmi 90 = some (yX6_back, cX6_back, 6, 1, 1, 1, 1, 0, 0, xt90) := rfl
theorem xjm_back : xmi 224 = some (yX7_back, cX7_back, 7, 1, 2, 1, 1, 0, 0, xt224) := rfl
theorem lc_back (hE : lEnv p l e s m b c D cA xa fm) (hI : lW s b D cA fm xs L adx adm hC hM i0 H locs ls cells slots) (hi : i0 + 6 ≤ L) (K : ∀ (gC gM : dH) (H2 : Heap) (locs2 : List Loc), lW s b D cA fm xs L adx adm gC gM i0 H2 locs2 ls cells slots → W p l e room_1 s m #[Value.ref b] below meth c H2 locs2 cells slots (lw_Z below #[Value.ref b] s) (F0 m 1166 ls [])) : W p l e room_1 s m #[Value.ref b] below meth c H locs cells slots (lw_Z below #[Value.ref b] s) (F0 m 895 ls []) := by
  obtain ⟨iP, iD, jP, jD, iN, iS, iL, iX, ib, ic, isl, iC, iM, i3, iR⟩ := hI
  have g0 := iL.2.2 (0, .ref b) (by simp)
  have g1 := iL.2.2 (1, .ref (adx 0)) (by simp)
  have g2 := iL.2.2 (2, .ref (adm 0)) (by simp)
  have g3 := iL.2.2 (3, .int (Int32.ofNat i0)) (by simp)
  refine lv_aload_n (pc := 895) (x := adx 0) hE.1 hE.2.1 dL_law_895 rfl g1 ?_
  refine law_op (pc := 896) (as' := []) (av := []) (ad := adx) (ad2 := adm) (C2 := dC shM hM) hE shC_sc hbC atC0 xjx_back ⟨rfl, rfl, rfl, rfl, by decide, rfl⟩ (m_X6_back (by decide)  hC) (s_X6_back hC iC ) (fun _ => rfl) iP iD jP (fun i hi k hk => iN i hi k (by rw [dC_len] at hk; exact hk)) iS iL.1 (by decide) ⟨ic, isl⟩ dL_law_896 (kr_46 _ (List.mem_of_getElem? (i := 7) rfl)) (fun o ho he ad1 H1 locs1 iP1 iD1 jP1 iS1 => ?_)
  refine lv_pop (pc := 899) (va := .int o.1) (rest := []) hE.1 hE.2.1 dL_law_899 rfl ?_
  refine lv_aload_n (pc := 900) (x := adm 0) (rest := []) hE.1 hE.2.1 dL_law_900 rfl g2 ?_
  refine law_op (pc := 901) (rest := []) (as' := []) (av := []) (ad := adm) (ad2 := adx) (C2 := dC shC o.2) hE shM_sc hbM atM0 xjm_back ⟨rfl, rfl, rfl, rfl, by decide, rfl⟩ (m_X7_back (by decide)  hM) (s_X7_back hM iM ) (fun _ => rfl) jP1 jD iP1 (fun i hi k hk => (iN k (by rw [dC_len] at hk; exact hk) i hi).symm) iS1 iL.1 (by decide) ⟨ic, isl⟩ dL_law_901 (kr_46 _ (List.mem_of_getElem? (i := 11) rfl)) (fun o2 ho2 he2 ad2 H2 locs2 jP2 jD2 iP2 iS2 => ?_)
  have er := op_back iR  o he o2 he2
  refine lv_pop (pc := 904) (va := .int o2.1) (rest := []) hE.1 hE.2.1 dL_law_904 rfl ?_
  refine lv_goto (pc := 905) (tgt := 1166) hE.1 hE.2.1 dL_law_905 rfl ?_
  exact K o.2 o2.2 _ _ ⟨iP2, iD1, jP2, jD2, iN, iS2, iL, iX, ib, ic, isl, ho.1, ho2.1, i3, er.2⟩
theorem xjx_count : xmi 91 = some (yX6_count, cX6_count, 6, 2, 2, 1, 1, 0, 0, xt91) := rfl
theorem xjm_count : xmi 225 = some (yX7_count, cX7_count, 7, 2, 4, 1, 1, 0, 0, xt225) := rfl
theorem lc_count (hE : lEnv p l e s m b c D cA xa fm) (hI : lW s b D cA fm xs L adx adm hC hM i0 H locs ls cells slots) (hi : i0 + 6 ≤ L) (K : ∀ (gC gM : dH) (H2 : Heap) (locs2 : List Loc), lW s b D cA fm xs L adx adm gC gM i0 H2 locs2 ls cells slots → W p l e room_1 s m #[Value.ref b] below meth c H2 locs2 cells slots (lw_Z below #[Value.ref b] s) (F0 m 1166 ls [])) : W p l e room_1 s m #[Value.ref b] below meth c H locs cells slots (lw_Z below #[Value.ref b] s) (F0 m 908 ls []) := by
  obtain ⟨iP, iD, jP, jD, iN, iS, iL, iX, ib, ic, isl, iC, iM, i3, iR⟩ := hI
  have g0 := iL.2.2 (0, .ref b) (by simp)
  have g1 := iL.2.2 (1, .ref (adx 0)) (by simp)
  have g2 := iL.2.2 (2, .ref (adm 0)) (by simp)
  have g3 := iL.2.2 (3, .int (Int32.ofNat i0)) (by simp)
  refine lv_aload_n (pc := 908) (x := adx 0) hE.1 hE.2.1 dL_law_908 rfl g1 ?_
  refine law_arg (pc := 909) hE iX i3 ib iS g0 g3 (i := 1) (by omega) (by decide) dL_law_909 dL_law_910 dL_law_911 dL_law_912 dL_law_913 ?_
  refine law_op (pc := 914) (as' := [.int (xs (i0 + 1))]) (av := [.int (xs (i0 + 1))]) (ad := adx) (ad2 := adm) (C2 := dC shM hM) hE shC_sc hbC atC0 xjx_count ⟨rfl, rfl, rfl, rfl, by decide, rfl⟩ (m_X6_count (by decide) (xs (i0 + 1)) hC) (s_X6_count hC iC (xs (i0 + 1))) (fun _ => rfl) iP iD jP (fun i hi k hk => iN i hi k (by rw [dC_len] at hk; exact hk)) iS iL.1 (by decide) ⟨ic, isl⟩ dL_law_914 (kr_46 _ (List.mem_of_getElem? (i := 15) rfl)) (fun o ho he ad1 H1 locs1 iP1 iD1 jP1 iS1 => ?_)
  refine lv_pop (pc := 917) (va := .int o) (rest := []) hE.1 hE.2.1 dL_law_917 rfl ?_
  refine lv_aload_n (pc := 918) (x := adm 0) (rest := []) hE.1 hE.2.1 dL_law_918 rfl g2 ?_
  refine law_arg (pc := 919) hE iX i3 ib iS1 g0 g3 (i := 1) (by omega) (by decide) dL_law_919 dL_law_920 dL_law_921 dL_law_922 dL_law_923 ?_
  refine law_op (pc := 924) (rest := []) (as' := [.int (xs (i0 + 1))]) (av := [.int (xs (i0 + 1))]) (ad := adm) (ad2 := adx) (C2 := dC shC hC) hE shM_sc hbM atM0 xjm_count ⟨rfl, rfl, rfl, rfl, by decide, rfl⟩ (m_X7_count (by decide) (xs (i0 + 1)) hM) (s_X7_count hM iM (xs (i0 + 1))) (fun _ => rfl) jP1 jD iP1 (fun i hi k hk => (iN k (by rw [dC_len] at hk; exact hk) i hi).symm) iS1 iL.1 (by decide) ⟨ic, isl⟩ dL_law_924 (kr_46 _ (List.mem_of_getElem? (i := 23) rfl)) (fun o2 ho2 he2 ad2 H2 locs2 jP2 jD2 iP2 iS2 => ?_)
  have er := op_count iR (xs (i0 + 1)) o he o2 he2
  refine lv_pop (pc := 927) (va := .int o2) (rest := []) hE.1 hE.2.1 dL_law_927 rfl ?_
  refine lv_goto (pc := 928) (tgt := 1166) hE.1 hE.2.1 dL_law_928 rfl ?_
  exact K hC hM _ _ ⟨iP2, iD1, jP2, jD2, iN, iS2, iL, iX, ib, ic, isl, iC, iM, i3, iR⟩
theorem xjx_sheet : xmi 92 = some (yX6_sheet, cX6_sheet, 6, 4, 4, 1, 1, 0, 0, xt92) := rfl
theorem xjm_sheet : xmi 227 = some (yX7_sheet, cX7_sheet, 7, 4, 5, 1, 1, 0, 0, xt227) := rfl
theorem lc_sheet (hE : lEnv p l e s m b c D cA xa fm) (hI : lW s b D cA fm xs L adx adm hC hM i0 H locs ls cells slots) (hi : i0 + 6 ≤ L) (K : ∀ (gC gM : dH) (H2 : Heap) (locs2 : List Loc), lW s b D cA fm xs L adx adm gC gM i0 H2 locs2 ls cells slots → W p l e room_1 s m #[Value.ref b] below meth c H2 locs2 cells slots (lw_Z below #[Value.ref b] s) (F0 m 1166 ls [])) : W p l e room_1 s m #[Value.ref b] below meth c H locs cells slots (lw_Z below #[Value.ref b] s) (F0 m 931 ls []) := by
  obtain ⟨iP, iD, jP, jD, iN, iS, iL, iX, ib, ic, isl, iC, iM, i3, iR⟩ := hI
  have g0 := iL.2.2 (0, .ref b) (by simp)
  have g1 := iL.2.2 (1, .ref (adx 0)) (by simp)
  have g2 := iL.2.2 (2, .ref (adm 0)) (by simp)
  have g3 := iL.2.2 (3, .int (Int32.ofNat i0)) (by simp)
  refine lv_aload_n (pc := 931) (x := adx 0) hE.1 hE.2.1 dL_law_931 rfl g1 ?_
  refine law_arg (pc := 932) hE iX i3 ib iS g0 g3 (i := 1) (by omega) (by decide) dL_law_932 dL_law_933 dL_law_934 dL_law_935 dL_law_936 ?_
  refine law_arg (pc := 937) hE iX i3 ib iS g0 g3 (i := 2) (by omega) (by decide) dL_law_937 dL_law_938 dL_law_939 dL_law_940 dL_law_941 ?_
  refine law_arg (pc := 942) hE iX i3 ib iS g0 g3 (i := 3) (by omega) (by decide) dL_law_942 dL_law_943 dL_law_944 dL_law_945 dL_law_946 ?_
  refine law_op (pc := 947) (as' := [.int (xs (i0 + 1)), .int (xs (i0 + 2)), .int (xs (i0 + 3))]) (av := [.int (xs (i0 + 1)), .int (xs (i0 + 2)), .int (xs (i0 + 3))]) (ad := adx) (ad2 := adm) (C2 := dC shM hM) hE shC_sc hbC atC0 xjx_sheet ⟨rfl, rfl, rfl, rfl, by decide, rfl⟩ (m_X6_sheet (by decide) (xs (i0 + 1)) (xs (i0 + 2)) (xs (i0 + 3)) hC) (s_X6_sheet hC iC (xs (i0 + 1)) (xs (i0 + 2)) (xs (i0 + 3))) (fun _ => rfl) iP iD jP (fun i hi k hk => iN i hi k (by rw [dC_len] at hk; exact hk)) iS iL.1 (by decide) ⟨ic, isl⟩ dL_law_947 (kr_47 _ (List.mem_of_getElem? (i := 3) rfl)) (fun o ho he ad1 H1 locs1 iP1 iD1 jP1 iS1 => ?_)
  refine lv_pop (pc := 950) (va := .int o.1) (rest := []) hE.1 hE.2.1 dL_law_950 rfl ?_
  refine lv_aload_n (pc := 951) (x := adm 0) (rest := []) hE.1 hE.2.1 dL_law_951 rfl g2 ?_
  refine law_arg (pc := 952) hE iX i3 ib iS1 g0 g3 (i := 1) (by omega) (by decide) dL_law_952 dL_law_953 dL_law_954 dL_law_955 dL_law_956 ?_
  refine law_arg (pc := 957) hE iX i3 ib iS1 g0 g3 (i := 2) (by omega) (by decide) dL_law_957 dL_law_958 dL_law_959 dL_law_960 dL_law_961 ?_
  refine law_arg (pc := 962) hE iX i3 ib iS1 g0 g3 (i := 3) (by omega) (by decide) dL_law_962 dL_law_963 dL_law_964 dL_law_965 dL_law_966 ?_
  refine law_op (pc := 967) (rest := []) (as' := [.int (xs (i0 + 1)), .int (xs (i0 + 2)), .int (xs (i0 + 3))]) (av := [.int (xs (i0 + 1)), .int (xs (i0 + 2)), .int (xs (i0 + 3))]) (ad := adm) (ad2 := adx) (C2 := dC shC o.2) hE shM_sc hbM atM0 xjm_sheet ⟨rfl, rfl, rfl, rfl, by decide, rfl⟩ (m_X7_sheet (by decide) (xs (i0 + 1)) (xs (i0 + 2)) (xs (i0 + 3)) hM) (s_X7_sheet hM iM (xs (i0 + 1)) (xs (i0 + 2)) (xs (i0 + 3))) (fun _ => rfl) jP1 jD iP1 (fun i hi k hk => (iN k (by rw [dC_len] at hk; exact hk) i hi).symm) iS1 iL.1 (by decide) ⟨ic, isl⟩ dL_law_967 (kr_47 _ (List.mem_of_getElem? (i := 10) rfl)) (fun o2 ho2 he2 ad2 H2 locs2 jP2 jD2 iP2 iS2 => ?_)
  have er := op_sheet iR (xs (i0 + 1)) (xs (i0 + 2)) (xs (i0 + 3)) o he o2 he2
  refine lv_pop (pc := 970) (va := .int o2.1) (rest := []) hE.1 hE.2.1 dL_law_970 rfl ?_
  refine lv_goto (pc := 971) (tgt := 1166) hE.1 hE.2.1 dL_law_971 rfl ?_
  exact K o.2 o2.2 _ _ ⟨iP2, iD1, jP2, jD2, iN, iS2, iL, iX, ib, ic, isl, ho.1, ho2.1, i3, er.2⟩
theorem xjx_cell : xmi 93 = some (yX6_cell, cX6_cell, 6, 4, 5, 1, 1, 0, 0, xt93) := rfl
theorem xjm_cell : xmi 228 = some (yX7_cell, cX7_cell, 7, 4, 4, 1, 1, 0, 0, xt228) := rfl
theorem lc_cell (hE : lEnv p l e s m b c D cA xa fm) (hI : lW s b D cA fm xs L adx adm hC hM i0 H locs ls cells slots) (hi : i0 + 6 ≤ L) (K : ∀ (gC gM : dH) (H2 : Heap) (locs2 : List Loc), lW s b D cA fm xs L adx adm gC gM i0 H2 locs2 ls cells slots → W p l e room_1 s m #[Value.ref b] below meth c H2 locs2 cells slots (lw_Z below #[Value.ref b] s) (F0 m 1166 ls [])) : W p l e room_1 s m #[Value.ref b] below meth c H locs cells slots (lw_Z below #[Value.ref b] s) (F0 m 974 ls []) := by
  obtain ⟨iP, iD, jP, jD, iN, iS, iL, iX, ib, ic, isl, iC, iM, i3, iR⟩ := hI
  have g0 := iL.2.2 (0, .ref b) (by simp)
  have g1 := iL.2.2 (1, .ref (adx 0)) (by simp)
  have g2 := iL.2.2 (2, .ref (adm 0)) (by simp)
  have g3 := iL.2.2 (3, .int (Int32.ofNat i0)) (by simp)
  refine lv_aload_n (pc := 974) (x := adx 0) hE.1 hE.2.1 dL_law_974 rfl g1 ?_
  refine law_arg (pc := 975) hE iX i3 ib iS g0 g3 (i := 1) (by omega) (by decide) dL_law_975 dL_law_976 dL_law_977 dL_law_978 dL_law_979 ?_
  refine law_arg (pc := 980) hE iX i3 ib iS g0 g3 (i := 2) (by omega) (by decide) dL_law_980 dL_law_981 dL_law_982 dL_law_983 dL_law_984 ?_
  refine law_arg (pc := 985) hE iX i3 ib iS g0 g3 (i := 3) (by omega) (by decide) dL_law_985 dL_law_986 dL_law_987 dL_law_988 dL_law_989 ?_
  refine law_op (pc := 990) (as' := [.int (xs (i0 + 1)), .int (xs (i0 + 2)), .int (xs (i0 + 3))]) (av := [.int (xs (i0 + 1)), .int (xs (i0 + 2)), .int (xs (i0 + 3))]) (ad := adx) (ad2 := adm) (C2 := dC shM hM) hE shC_sc hbC atC0 xjx_cell ⟨rfl, rfl, rfl, rfl, by decide, rfl⟩ (m_X6_cell (by decide) (xs (i0 + 1)) (xs (i0 + 2)) (xs (i0 + 3)) hC) (s_X6_cell hC iC (xs (i0 + 1)) (xs (i0 + 2)) (xs (i0 + 3))) (fun _ => rfl) iP iD jP (fun i hi k hk => iN i hi k (by rw [dC_len] at hk; exact hk)) iS iL.1 (by decide) ⟨ic, isl⟩ dL_law_990 (kr_47 _ (List.mem_of_getElem? (i := 11) rfl)) (fun o ho he ad1 H1 locs1 iP1 iD1 jP1 iS1 => ?_)
  refine lv_pop (pc := 993) (va := .int o.1) (rest := []) hE.1 hE.2.1 dL_law_993 rfl ?_
  refine lv_aload_n (pc := 994) (x := adm 0) (rest := []) hE.1 hE.2.1 dL_law_994 rfl g2 ?_
  refine law_arg (pc := 995) hE iX i3 ib iS1 g0 g3 (i := 1) (by omega) (by decide) dL_law_995 dL_law_996 dL_law_997 dL_law_998 dL_law_999 ?_
  refine law_arg (pc := 1000) hE iX i3 ib iS1 g0 g3 (i := 2) (by omega) (by decide) dL_law_1000 dL_law_1001 dL_law_1002 dL_law_1003 dL_law_1004 ?_
  refine law_arg (pc := 1005) hE iX i3 ib iS1 g0 g3 (i := 3) (by omega) (by decide) dL_law_1005 dL_law_1006 dL_law_1007 dL_law_1008 dL_law_1009 ?_
  refine law_op (pc := 1010) (rest := []) (as' := [.int (xs (i0 + 1)), .int (xs (i0 + 2)), .int (xs (i0 + 3))]) (av := [.int (xs (i0 + 1)), .int (xs (i0 + 2)), .int (xs (i0 + 3))]) (ad := adm) (ad2 := adx) (C2 := dC shC o.2) hE shM_sc hbM atM0 xjm_cell ⟨rfl, rfl, rfl, rfl, by decide, rfl⟩ (m_X7_cell (by decide) (xs (i0 + 1)) (xs (i0 + 2)) (xs (i0 + 3)) hM) (s_X7_cell hM iM (xs (i0 + 1)) (xs (i0 + 2)) (xs (i0 + 3))) (fun _ => rfl) jP1 jD iP1 (fun i hi k hk => (iN k (by rw [dC_len] at hk; exact hk) i hi).symm) iS1 iL.1 (by decide) ⟨ic, isl⟩ dL_law_1010 (kr_47 _ (List.mem_of_getElem? (i := 19) rfl)) (fun o2 ho2 he2 ad2 H2 locs2 jP2 jD2 iP2 iS2 => ?_)
  have er := op_cell iR (xs (i0 + 1)) (xs (i0 + 2)) (xs (i0 + 3)) o he o2 he2
  refine lv_pop (pc := 1013) (va := .int o2.1) (rest := []) hE.1 hE.2.1 dL_law_1013 rfl ?_
  refine lv_goto (pc := 1014) (tgt := 1166) hE.1 hE.2.1 dL_law_1014 rfl ?_
  exact K o.2 o2.2 _ _ ⟨iP2, iD1, jP2, jD2, iN, iS2, iL, iX, ib, ic, isl, ho.1, ho2.1, i3, er.2⟩
theorem xjx_copy : xmi 94 = some (yX6_copy, cX6_copy, 6, 6, 8, 1, 1, 0, 0, xt94) := rfl
theorem xjm_copy : xmi 229 = some (yX7_copy, cX7_copy, 7, 6, 9, 1, 1, 0, 0, xt229) := rfl
theorem lc_copy (hE : lEnv p l e s m b c D cA xa fm) (hI : lW s b D cA fm xs L adx adm hC hM i0 H locs ls cells slots) (hi : i0 + 6 ≤ L) (K : ∀ (gC gM : dH) (H2 : Heap) (locs2 : List Loc), lW s b D cA fm xs L adx adm gC gM i0 H2 locs2 ls cells slots → W p l e room_1 s m #[Value.ref b] below meth c H2 locs2 cells slots (lw_Z below #[Value.ref b] s) (F0 m 1166 ls [])) : W p l e room_1 s m #[Value.ref b] below meth c H locs cells slots (lw_Z below #[Value.ref b] s) (F0 m 1017 ls []) := by
  obtain ⟨iP, iD, jP, jD, iN, iS, iL, iX, ib, ic, isl, iC, iM, i3, iR⟩ := hI
  have g0 := iL.2.2 (0, .ref b) (by simp)
  have g1 := iL.2.2 (1, .ref (adx 0)) (by simp)
  have g2 := iL.2.2 (2, .ref (adm 0)) (by simp)
  have g3 := iL.2.2 (3, .int (Int32.ofNat i0)) (by simp)
  refine lv_aload_n (pc := 1017) (x := adx 0) hE.1 hE.2.1 dL_law_1017 rfl g1 ?_
  refine law_arg (pc := 1018) hE iX i3 ib iS g0 g3 (i := 1) (by omega) (by decide) dL_law_1018 dL_law_1019 dL_law_1020 dL_law_1021 dL_law_1022 ?_
  refine law_arg (pc := 1023) hE iX i3 ib iS g0 g3 (i := 2) (by omega) (by decide) dL_law_1023 dL_law_1024 dL_law_1025 dL_law_1026 dL_law_1027 ?_
  refine law_arg (pc := 1028) hE iX i3 ib iS g0 g3 (i := 3) (by omega) (by decide) dL_law_1028 dL_law_1029 dL_law_1030 dL_law_1031 dL_law_1032 ?_
  refine law_arg (pc := 1033) hE iX i3 ib iS g0 g3 (i := 4) (by omega) (by decide) dL_law_1033 dL_law_1034 dL_law_1035 dL_law_1036 dL_law_1037 ?_
  refine law_arg (pc := 1038) hE iX i3 ib iS g0 g3 (i := 5) (by omega) (by decide) dL_law_1038 dL_law_1039 dL_law_1040 dL_law_1041 dL_law_1042 ?_
  refine law_op (pc := 1043) (as' := [.int (xs (i0 + 1)), .int (xs (i0 + 2)), .int (xs (i0 + 3)), .int (xs (i0 + 4)), .int (xs (i0 + 5))]) (av := [.int (xs (i0 + 1)), .int (xs (i0 + 2)), .int (xs (i0 + 3)), .int (xs (i0 + 4)), .int (xs (i0 + 5))]) (ad := adx) (ad2 := adm) (C2 := dC shM hM) hE shC_sc hbC atC0 xjx_copy ⟨rfl, rfl, rfl, rfl, by decide, rfl⟩ (m_X6_copy (by decide) (xs (i0 + 1)) (xs (i0 + 2)) (xs (i0 + 3)) (xs (i0 + 4)) (xs (i0 + 5)) hC) (s_X6_copy hC iC (xs (i0 + 1)) (xs (i0 + 2)) (xs (i0 + 3)) (xs (i0 + 4)) (xs (i0 + 5))) (fun _ => rfl) iP iD jP (fun i hi k hk => iN i hi k (by rw [dC_len] at hk; exact hk)) iS iL.1 (by decide) ⟨ic, isl⟩ dL_law_1043 (kr_47 _ (List.mem_of_getElem? (i := 23) rfl)) (fun o ho he ad1 H1 locs1 iP1 iD1 jP1 iS1 => ?_)
  refine lv_pop (pc := 1046) (va := .int o.1) (rest := []) hE.1 hE.2.1 dL_law_1046 rfl ?_
  refine lv_aload_n (pc := 1047) (x := adm 0) (rest := []) hE.1 hE.2.1 dL_law_1047 rfl g2 ?_
  refine law_arg (pc := 1048) hE iX i3 ib iS1 g0 g3 (i := 1) (by omega) (by decide) dL_law_1048 dL_law_1049 dL_law_1050 dL_law_1051 dL_law_1052 ?_
  refine law_arg (pc := 1053) hE iX i3 ib iS1 g0 g3 (i := 2) (by omega) (by decide) dL_law_1053 dL_law_1054 dL_law_1055 dL_law_1056 dL_law_1057 ?_
  refine law_arg (pc := 1058) hE iX i3 ib iS1 g0 g3 (i := 3) (by omega) (by decide) dL_law_1058 dL_law_1059 dL_law_1060 dL_law_1061 dL_law_1062 ?_
  refine law_arg (pc := 1063) hE iX i3 ib iS1 g0 g3 (i := 4) (by omega) (by decide) dL_law_1063 dL_law_1064 dL_law_1065 dL_law_1066 dL_law_1067 ?_
  refine law_arg (pc := 1068) hE iX i3 ib iS1 g0 g3 (i := 5) (by omega) (by decide) dL_law_1068 dL_law_1069 dL_law_1070 dL_law_1071 dL_law_1072 ?_
  refine law_op (pc := 1073) (rest := []) (as' := [.int (xs (i0 + 1)), .int (xs (i0 + 2)), .int (xs (i0 + 3)), .int (xs (i0 + 4)), .int (xs (i0 + 5))]) (av := [.int (xs (i0 + 1)), .int (xs (i0 + 2)), .int (xs (i0 + 3)), .int (xs (i0 + 4)), .int (xs (i0 + 5))]) (ad := adm) (ad2 := adx) (C2 := dC shC o.2) hE shM_sc hbM atM0 xjm_copy ⟨rfl, rfl, rfl, rfl, by decide, rfl⟩ (m_X7_copy (by decide) (xs (i0 + 1)) (xs (i0 + 2)) (xs (i0 + 3)) (xs (i0 + 4)) (xs (i0 + 5)) hM) (s_X7_copy hM iM (xs (i0 + 1)) (xs (i0 + 2)) (xs (i0 + 3)) (xs (i0 + 4)) (xs (i0 + 5))) (fun _ => rfl) jP1 jD iP1 (fun i hi k hk => (iN k (by rw [dC_len] at hk; exact hk) i hi).symm) iS1 iL.1 (by decide) ⟨ic, isl⟩ dL_law_1073 (kr_48 _ (List.mem_of_getElem? (i := 5) rfl)) (fun o2 ho2 he2 ad2 H2 locs2 jP2 jD2 iP2 iS2 => ?_)
  have er := op_copy iR (xs (i0 + 1)) (xs (i0 + 2)) (xs (i0 + 3)) (xs (i0 + 4)) (xs (i0 + 5)) o he o2 he2
  refine lv_pop (pc := 1076) (va := .int o2.1) (rest := []) hE.1 hE.2.1 dL_law_1076 rfl ?_
  refine lv_goto (pc := 1077) (tgt := 1166) hE.1 hE.2.1 dL_law_1077 rfl ?_
  exact K o.2 o2.2 _ _ ⟨iP2, iD1, jP2, jD2, iN, iS2, iL, iX, ib, ic, isl, ho.1, ho2.1, i3, er.2⟩
theorem xjx_houses : xmi 95 = some (yX6_houses, cX6_houses, 6, 5, 9, 1, 1, 0, 0, xt95) := rfl
theorem xjm_houses : xmi 230 = some (yX7_houses, cX7_houses, 7, 5, 8, 1, 1, 0, 0, xt230) := rfl
theorem lc_houses (hE : lEnv p l e s m b c D cA xa fm) (hI : lW s b D cA fm xs L adx adm hC hM i0 H locs ls cells slots) (hi : i0 + 6 ≤ L) (K : ∀ (gC gM : dH) (H2 : Heap) (locs2 : List Loc), lW s b D cA fm xs L adx adm gC gM i0 H2 locs2 ls cells slots → W p l e room_1 s m #[Value.ref b] below meth c H2 locs2 cells slots (lw_Z below #[Value.ref b] s) (F0 m 1166 ls [])) : W p l e room_1 s m #[Value.ref b] below meth c H locs cells slots (lw_Z below #[Value.ref b] s) (F0 m 1080 ls []) := by
  obtain ⟨iP, iD, jP, jD, iN, iS, iL, iX, ib, ic, isl, iC, iM, i3, iR⟩ := hI
  have g0 := iL.2.2 (0, .ref b) (by simp)
  have g1 := iL.2.2 (1, .ref (adx 0)) (by simp)
  have g2 := iL.2.2 (2, .ref (adm 0)) (by simp)
  have g3 := iL.2.2 (3, .int (Int32.ofNat i0)) (by simp)
  refine lv_aload_n (pc := 1080) (x := adx 0) hE.1 hE.2.1 dL_law_1080 rfl g1 ?_
  refine law_arg (pc := 1081) hE iX i3 ib iS g0 g3 (i := 1) (by omega) (by decide) dL_law_1081 dL_law_1082 dL_law_1083 dL_law_1084 dL_law_1085 ?_
  refine law_arg (pc := 1086) hE iX i3 ib iS g0 g3 (i := 2) (by omega) (by decide) dL_law_1086 dL_law_1087 dL_law_1088 dL_law_1089 dL_law_1090 ?_
  refine law_arg (pc := 1091) hE iX i3 ib iS g0 g3 (i := 3) (by omega) (by decide) dL_law_1091 dL_law_1092 dL_law_1093 dL_law_1094 dL_law_1095 ?_
  refine law_arg (pc := 1096) hE iX i3 ib iS g0 g3 (i := 4) (by omega) (by decide) dL_law_1096 dL_law_1097 dL_law_1098 dL_law_1099 dL_law_1100 ?_
  refine law_op (pc := 1101) (as' := [.int (xs (i0 + 1)), .int (xs (i0 + 2)), .int (xs (i0 + 3)), .int (xs (i0 + 4))]) (av := [.int (xs (i0 + 1)), .int (xs (i0 + 2)), .int (xs (i0 + 3)), .int (xs (i0 + 4))]) (ad := adx) (ad2 := adm) (C2 := dC shM hM) hE shC_sc hbC atC0 xjx_houses ⟨rfl, rfl, rfl, rfl, by decide, rfl⟩ (m_X6_houses (by decide) (xs (i0 + 1)) (xs (i0 + 2)) (xs (i0 + 3)) (xs (i0 + 4)) hC) (s_X6_houses hC iC (xs (i0 + 1)) (xs (i0 + 2)) (xs (i0 + 3)) (xs (i0 + 4))) (fun _ => rfl) iP iD jP (fun i hi k hk => iN i hi k (by rw [dC_len] at hk; exact hk)) iS iL.1 (by decide) ⟨ic, isl⟩ dL_law_1101 (kr_48 _ (List.mem_of_getElem? (i := 9) rfl)) (fun o ho he ad1 H1 locs1 iP1 iD1 jP1 iS1 => ?_)
  refine lv_pop (pc := 1104) (va := .int o.1) (rest := []) hE.1 hE.2.1 dL_law_1104 rfl ?_
  refine lv_aload_n (pc := 1105) (x := adm 0) (rest := []) hE.1 hE.2.1 dL_law_1105 rfl g2 ?_
  refine law_arg (pc := 1106) hE iX i3 ib iS1 g0 g3 (i := 1) (by omega) (by decide) dL_law_1106 dL_law_1107 dL_law_1108 dL_law_1109 dL_law_1110 ?_
  refine law_arg (pc := 1111) hE iX i3 ib iS1 g0 g3 (i := 2) (by omega) (by decide) dL_law_1111 dL_law_1112 dL_law_1113 dL_law_1114 dL_law_1115 ?_
  refine law_arg (pc := 1116) hE iX i3 ib iS1 g0 g3 (i := 3) (by omega) (by decide) dL_law_1116 dL_law_1117 dL_law_1118 dL_law_1119 dL_law_1120 ?_
  refine law_arg (pc := 1121) hE iX i3 ib iS1 g0 g3 (i := 4) (by omega) (by decide) dL_law_1121 dL_law_1122 dL_law_1123 dL_law_1124 dL_law_1125 ?_
  refine law_op (pc := 1126) (rest := []) (as' := [.int (xs (i0 + 1)), .int (xs (i0 + 2)), .int (xs (i0 + 3)), .int (xs (i0 + 4))]) (av := [.int (xs (i0 + 1)), .int (xs (i0 + 2)), .int (xs (i0 + 3)), .int (xs (i0 + 4))]) (ad := adm) (ad2 := adx) (C2 := dC shC o.2) hE shM_sc hbM atM0 xjm_houses ⟨rfl, rfl, rfl, rfl, by decide, rfl⟩ (m_X7_houses (by decide) (xs (i0 + 1)) (xs (i0 + 2)) (xs (i0 + 3)) (xs (i0 + 4)) hM) (s_X7_houses hM iM (xs (i0 + 1)) (xs (i0 + 2)) (xs (i0 + 3)) (xs (i0 + 4))) (fun _ => rfl) jP1 jD iP1 (fun i hi k hk => (iN k (by rw [dC_len] at hk; exact hk) i hi).symm) iS1 iL.1 (by decide) ⟨ic, isl⟩ dL_law_1126 (kr_48 _ (List.mem_of_getElem? (i := 13) rfl)) (fun o2 ho2 he2 ad2 H2 locs2 jP2 jD2 iP2 iS2 => ?_)
  have er := op_houses iR (xs (i0 + 1)) (xs (i0 + 2)) (xs (i0 + 3)) (xs (i0 + 4)) o he o2 he2
  refine lv_pop (pc := 1129) (va := .int o2.1) (rest := []) hE.1 hE.2.1 dL_law_1129 rfl ?_
  refine lv_goto (pc := 1130) (tgt := 1166) hE.1 hE.2.1 dL_law_1130 rfl ?_
  exact K o.2 o2.2 _ _ ⟨iP2, iD1, jP2, jD2, iN, iS2, iL, iX, ib, ic, isl, ho.1, ho2.1, i3, er.2⟩
theorem xjx_taken : xmi 96 = some (yX6_taken, cX6_taken, 6, 3, 3, 1, 1, 0, 0, xt96) := rfl
theorem xjm_taken : xmi 232 = some (yX7_taken, cX7_taken, 7, 3, 4, 1, 1, 0, 0, xt232) := rfl
theorem lc_taken (hE : lEnv p l e s m b c D cA xa fm) (hI : lW s b D cA fm xs L adx adm hC hM i0 H locs ls cells slots) (hi : i0 + 6 ≤ L) (K : ∀ (gC gM : dH) (H2 : Heap) (locs2 : List Loc), lW s b D cA fm xs L adx adm gC gM i0 H2 locs2 ls cells slots → W p l e room_1 s m #[Value.ref b] below meth c H2 locs2 cells slots (lw_Z below #[Value.ref b] s) (F0 m 1166 ls [])) : W p l e room_1 s m #[Value.ref b] below meth c H locs cells slots (lw_Z below #[Value.ref b] s) (F0 m 1133 ls []) := by
  obtain ⟨iP, iD, jP, jD, iN, iS, iL, iX, ib, ic, isl, iC, iM, i3, iR⟩ := hI
  have g0 := iL.2.2 (0, .ref b) (by simp)
  have g1 := iL.2.2 (1, .ref (adx 0)) (by simp)
  have g2 := iL.2.2 (2, .ref (adm 0)) (by simp)
  have g3 := iL.2.2 (3, .int (Int32.ofNat i0)) (by simp)
  refine lv_aload_n (pc := 1133) (x := adx 0) hE.1 hE.2.1 dL_law_1133 rfl g1 ?_
  refine law_arg (pc := 1134) hE iX i3 ib iS g0 g3 (i := 1) (by omega) (by decide) dL_law_1134 dL_law_1135 dL_law_1136 dL_law_1137 dL_law_1138 ?_
  refine law_arg (pc := 1139) hE iX i3 ib iS g0 g3 (i := 2) (by omega) (by decide) dL_law_1139 dL_law_1140 dL_law_1141 dL_law_1142 dL_law_1143 ?_
  refine law_op (pc := 1144) (as' := [.int (xs (i0 + 1)), .int (xs (i0 + 2))]) (av := [.int (xs (i0 + 1)), .int (xs (i0 + 2))]) (ad := adx) (ad2 := adm) (C2 := dC shM hM) hE shC_sc hbC atC0 xjx_taken ⟨rfl, rfl, rfl, rfl, by decide, rfl⟩ (m_X6_taken (by decide) (xs (i0 + 1)) (xs (i0 + 2)) hC) (s_X6_taken hC iC (xs (i0 + 1)) (xs (i0 + 2))) (fun _ => rfl) iP iD jP (fun i hi k hk => iN i hi k (by rw [dC_len] at hk; exact hk)) iS iL.1 (by decide) ⟨ic, isl⟩ dL_law_1144 (kr_48 _ (List.mem_of_getElem? (i := 19) rfl)) (fun o ho he ad1 H1 locs1 iP1 iD1 jP1 iS1 => ?_)
  refine lv_pop (pc := 1147) (va := .int o) (rest := []) hE.1 hE.2.1 dL_law_1147 rfl ?_
  refine lv_aload_n (pc := 1148) (x := adm 0) (rest := []) hE.1 hE.2.1 dL_law_1148 rfl g2 ?_
  refine law_arg (pc := 1149) hE iX i3 ib iS1 g0 g3 (i := 1) (by omega) (by decide) dL_law_1149 dL_law_1150 dL_law_1151 dL_law_1152 dL_law_1153 ?_
  refine law_arg (pc := 1154) hE iX i3 ib iS1 g0 g3 (i := 2) (by omega) (by decide) dL_law_1154 dL_law_1155 dL_law_1156 dL_law_1157 dL_law_1158 ?_
  refine law_op (pc := 1159) (rest := []) (as' := [.int (xs (i0 + 1)), .int (xs (i0 + 2))]) (av := [.int (xs (i0 + 1)), .int (xs (i0 + 2))]) (ad := adm) (ad2 := adx) (C2 := dC shC hC) hE shM_sc hbM atM0 xjm_taken ⟨rfl, rfl, rfl, rfl, by decide, rfl⟩ (m_X7_taken (by decide) (xs (i0 + 1)) (xs (i0 + 2)) hM) (s_X7_taken hM iM (xs (i0 + 1)) (xs (i0 + 2))) (fun _ => rfl) jP1 jD iP1 (fun i hi k hk => (iN k (by rw [dC_len] at hk; exact hk) i hi).symm) iS1 iL.1 (by decide) ⟨ic, isl⟩ dL_law_1159 (kr_49 _ (List.mem_of_getElem? (i := 3) rfl)) (fun o2 ho2 he2 ad2 H2 locs2 jP2 jD2 iP2 iS2 => ?_)
  have er := op_taken iR (xs (i0 + 1)) (xs (i0 + 2)) o he o2 he2
  refine lv_pop (pc := 1162) (va := .int o2) (rest := []) hE.1 hE.2.1 dL_law_1162 rfl ?_
  refine lv_goto (pc := 1163) (tgt := 1166) hE.1 hE.2.1 dL_law_1163 rfl ?_
  exact K hC hM _ _ ⟨iP2, iD1, jP2, jD2, iN, iS2, iL, iX, ib, ic, isl, iC, iM, i3, iR⟩
end XOPS
