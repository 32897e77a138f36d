/-! the calls of the law, one by one -/
theorem lw_c0 {p : Program} {l : Launch} {e : Env} {s : State} {m : MethodId} {args : Array Value} {below : List Frame} {meth : Method} {c : Code} {Q : State → Prop} {D : va_G} {ad : Nat → Nat} {cy : Nat → ClassId} {Z : State → Heap → Prop} (hAd : fm_Ad fm_tm ad) (hZ : fm_Zk (fm_A fm_tm ad) Z) (X : fm_X p s m args c code R_law D fm_cl fm_tm ad cy (lw_Aq s) fm_Ts 4) (Y : fm_Y s fm_nt Z fm_tm ad (lw_Aq s)) {b L n : Nat} {xs : Nat → Int32} (hX : va_X b L xs s s.heap) (hbl : b < s.heap.size) (hL : L ≤ 3072) {x3 : Int32} (hx3 : 0 ≤ x3.toInt ∧ x3.toInt + 6 ≤ L) {V : fm_V} (hI : lw_I n V) (hn : n < 512) {ls : Array Slot} (hl0 : ls[0]? = some (.val (.ref b))) (hl1 : ls[1]? = some (.val (.ref (ad 0)))) (hl2 : ls[2]? = some (.val (.ref (ad 80)))) (hl3 : ls[3]? = some (.val (.int x3))) (hs : ls.size = 4) (next : ∀ V1, lw_I (n + 1) V1 → lz_W p l e s m args below meth c Q D ad cy V1 1153 ls []) : lz_W p l e s m args below meth c Q D ad cy V 156 ls [] := by
  refine lz_aload_n X d_law_156 rfl hl1 ?_
  refine lz_arg X hX hbl hL hx3 hl0 hl3 (by decide) d_law_157 d_law_158 d_law_159 d_law_160 d_law_161 ?_
  refine lz_arg X hX hbl hL hx3 hl0 hl3 (by decide) d_law_162 d_law_163 d_law_164 d_law_165 d_law_166 ?_
  refine lz_arg X hX hbl hL hx3 hl0 hl3 (by decide) d_law_167 d_law_168 d_law_169 d_law_170 d_law_171 ?_
  refine lz_arg X hX hbl hL hx3 hl0 hl3 (by decide) d_law_172 d_law_173 d_law_174 d_law_175 d_law_176 ?_
  refine lz_nz X d_law_177 d_law_180 d_law_181 d_law_184 ?_
  refine lz_call X Y d_law_185 (i := 0) (m_X7_yard_0 hAd hZ fm_G_gd V [.ref (ad 0), .int (xs (x3 + Int32.ofInt 1).toNatClampNeg), .int (xs (x3 + Int32.ofInt 2).toNatClampNeg), .int (xs (x3 + Int32.ofInt 3).toNatClampNeg), .int (if (xs (x3 + Int32.ofInt 4).toNatClampNeg) = 0 then 0 else 1)] ⟨hI.1, hI.2.1, ⟨rv_okR' rfl rfl, rv_full_ok _, rv_full_ok _, rv_full_ok _, rv_okB (lo := 0) (hi := 1) (by split <;> decide) (by split <;> decide), trivial⟩, (fun f hf => absurd hf List.not_mem_nil)⟩) wl_L_13 wm_X7_yard wy_X7_yard (by decide) ⟨rfl, rfl⟩ (rest := []) rfl rfl hs (by simp [Value.category]) (fun r V1 hp => ?_)
  obtain ⟨y1, rfl, ya, yb, -, yc⟩ := hp.2.2.1
  replace hI := lw_x hI hp (by decide +kernel)
  clear hp yc
  refine lz_pop X d_law_188 rfl ?_
  refine lz_aload_n X d_law_189 rfl hl2 ?_
  refine lz_arg X hX hbl hL hx3 hl0 hl3 (by decide) d_law_190 d_law_191 d_law_192 d_law_193 d_law_194 ?_
  refine lz_arg X hX hbl hL hx3 hl0 hl3 (by decide) d_law_195 d_law_196 d_law_197 d_law_198 d_law_199 ?_
  refine lz_arg X hX hbl hL hx3 hl0 hl3 (by decide) d_law_200 d_law_201 d_law_202 d_law_203 d_law_204 ?_
  refine lz_arg X hX hbl hL hx3 hl0 hl3 (by decide) d_law_205 d_law_206 d_law_207 d_law_208 d_law_209 ?_
  refine lz_nz X d_law_210 d_law_213 d_law_214 d_law_217 ?_
  refine lz_call X Y d_law_218 (i := 80) (m_X8_yard_0 hAd hZ V1 [.ref (ad 80), .int (xs (x3 + Int32.ofInt 1).toNatClampNeg), .int (xs (x3 + Int32.ofInt 2).toNatClampNeg), .int (xs (x3 + Int32.ofInt 3).toNatClampNeg), .int (if (xs (x3 + Int32.ofInt 4).toNatClampNeg) = 0 then 0 else 1)] ⟨hI.1, hI.2.1, ⟨rv_okR' rfl rfl, rv_full_ok _, rv_full_ok _, rv_full_ok _, rv_okB (lo := 0) (hi := 1) (by split <;> decide) (by split <;> decide), trivial⟩, (fun f hf => absurd hf List.not_mem_nil)⟩) wl_L_17 wm_X8_yard wy_X8_yard (by decide) ⟨rfl, rfl⟩ (rest := []) rfl rfl hs (by simp [Value.category]) (fun r V2 hp => ?_)
  obtain ⟨y2, rfl, za, zb, -, zc⟩ := hp.2.2.1
  replace hI := lw_m hI hp (by decide +kernel)
  refine lz_pop X d_law_221 rfl ?_
  refine lz_goto X 1153 d_law_222 (by decide) ?_
  exact next _ hI
theorem lw_c1 {p : Program} {l : Launch} {e : Env} {s : State} {m : MethodId} {args : Array Value} {below : List Frame} {meth : Method} {c : Code} {Q : State → Prop} {D : va_G} {ad : Nat → Nat} {cy : Nat → ClassId} {Z : State → Heap → Prop} (hAd : fm_Ad fm_tm ad) (hZ : fm_Zk (fm_A fm_tm ad) Z) (X : fm_X p s m args c code R_law D fm_cl fm_tm ad cy (lw_Aq s) fm_Ts 4) (Y : fm_Y s fm_nt Z fm_tm ad (lw_Aq s)) {b L n : Nat} {xs : Nat → Int32} (hX : va_X b L xs s s.heap) (hbl : b < s.heap.size) (hL : L ≤ 3072) {x3 : Int32} (hx3 : 0 ≤ x3.toInt ∧ x3.toInt + 6 ≤ L) {V : fm_V} (hI : lw_I n V) (hn : n < 512) {ls : Array Slot} (hl0 : ls[0]? = some (.val (.ref b))) (hl1 : ls[1]? = some (.val (.ref (ad 0)))) (hl2 : ls[2]? = some (.val (.ref (ad 80)))) (hl3 : ls[3]? = some (.val (.int x3))) (hs : ls.size = 4) (next : ∀ V1, lw_I (n + 1) V1 → lz_W p l e s m args below meth c Q D ad cy V1 1153 ls []) : lz_W p l e s m args below meth c Q D ad cy V 225 ls [] := by
  refine lz_aload_n X d_law_225 rfl hl1 ?_
  refine lz_arg X hX hbl hL hx3 hl0 hl3 (by decide) d_law_226 d_law_227 d_law_228 d_law_229 d_law_230 ?_
  refine lz_arg X hX hbl hL hx3 hl0 hl3 (by decide) d_law_231 d_law_232 d_law_233 d_law_234 d_law_235 ?_
  refine lz_call X Y d_law_236 (i := 0) (m_X7_rain_0 hAd hZ fm_G_gd V [.ref (ad 0), .int (xs (x3 + Int32.ofInt 1).toNatClampNeg), .int (xs (x3 + Int32.ofInt 2).toNatClampNeg)] ⟨hI.1, hI.2.1, ⟨rv_okR' rfl rfl, rv_full_ok _, rv_full_ok _, trivial⟩, (fun f hf => absurd hf List.not_mem_nil)⟩) wl_L_18 wm_X7_rain wy_X7_rain (by decide) ⟨rfl, rfl⟩ (rest := []) rfl rfl hs (by simp [Value.category]) (fun r V1 hp => ?_)
  obtain ⟨y1, rfl, ya, yb, -, yc⟩ := hp.2.2.1
  replace hI := lw_x hI hp (by decide +kernel)
  clear hp yc
  refine lz_pop X d_law_239 rfl ?_
  refine lz_aload_n X d_law_240 rfl hl2 ?_
  refine lz_arg X hX hbl hL hx3 hl0 hl3 (by decide) d_law_241 d_law_242 d_law_243 d_law_244 d_law_245 ?_
  refine lz_arg X hX hbl hL hx3 hl0 hl3 (by decide) d_law_246 d_law_247 d_law_248 d_law_249 d_law_250 ?_
  refine lz_call X Y d_law_251 (i := 80) (m_X8_rain_0 hAd hZ V1 [.ref (ad 80), .int (xs (x3 + Int32.ofInt 1).toNatClampNeg), .int (xs (x3 + Int32.ofInt 2).toNatClampNeg)] ⟨hI.1, hI.2.1, ⟨rv_okR' rfl rfl, rv_full_ok _, rv_full_ok _, trivial⟩, (fun f hf => absurd hf List.not_mem_nil)⟩) wl_L_22 wm_X8_rain wy_X8_rain (by decide) ⟨rfl, rfl⟩ (rest := []) rfl rfl hs (by simp [Value.category]) (fun r V2 hp => ?_)
  obtain ⟨y2, rfl, za, zb, -, zc⟩ := hp.2.2.1
  replace hI := lw_m hI hp (by decide +kernel)
  refine lz_pop X d_law_254 rfl ?_
  refine lz_goto X 1153 d_law_255 (by decide) ?_
  exact next _ hI
theorem lw_c2 {p : Program} {l : Launch} {e : Env} {s : State} {m : MethodId} {args : Array Value} {below : List Frame} {meth : Method} {c : Code} {Q : State → Prop} {D : va_G} {ad : Nat → Nat} {cy : Nat → ClassId} {Z : State → Heap → Prop} (hAd : fm_Ad fm_tm ad) (hZ : fm_Zk (fm_A fm_tm ad) Z) (X : fm_X p s m args c code R_law D fm_cl fm_tm ad cy (lw_Aq s) fm_Ts 4) (Y : fm_Y s fm_nt Z fm_tm ad (lw_Aq s)) {b L n : Nat} {xs : Nat → Int32} (hX : va_X b L xs s s.heap) (hbl : b < s.heap.size) (hL : L ≤ 3072) {x3 : Int32} (hx3 : 0 ≤ x3.toInt ∧ x3.toInt + 6 ≤ L) {V : fm_V} (hI : lw_I n V) (hn : n < 512) {ls : Array Slot} (hl0 : ls[0]? = some (.val (.ref b))) (hl1 : ls[1]? = some (.val (.ref (ad 0)))) (hl2 : ls[2]? = some (.val (.ref (ad 80)))) (hl3 : ls[3]? = some (.val (.int x3))) (hs : ls.size = 4) (next : ∀ V1, lw_I (n + 1) V1 → lz_W p l e s m args below meth c Q D ad cy V1 1153 ls []) : lz_W p l e s m args below meth c Q D ad cy V 258 ls [] := by
  refine lz_aload_n X d_law_258 rfl hl1 ?_
  refine lz_arg X hX hbl hL hx3 hl0 hl3 (by decide) d_law_259 d_law_260 d_law_261 d_law_262 d_law_263 ?_
  refine lz_arg X hX hbl hL hx3 hl0 hl3 (by decide) d_law_264 d_law_265 d_law_266 d_law_267 d_law_268 ?_
  refine lz_arg X hX hbl hL hx3 hl0 hl3 (by decide) d_law_269 d_law_270 d_law_271 d_law_272 d_law_273 ?_
  refine lz_arg X hX hbl hL hx3 hl0 hl3 (by decide) d_law_274 d_law_275 d_law_276 d_law_277 d_law_278 ?_
  refine lz_arg X hX hbl hL hx3 hl0 hl3 (by decide) d_law_279 d_law_280 d_law_281 d_law_282 d_law_283 ?_
  refine lz_call X Y d_law_284 (i := 0) (m_X7_porter_0 hAd hZ fm_G_gd V [.ref (ad 0), .int (xs (x3 + Int32.ofInt 1).toNatClampNeg), .int (xs (x3 + Int32.ofInt 2).toNatClampNeg), .int (xs (x3 + Int32.ofInt 3).toNatClampNeg), .int (xs (x3 + Int32.ofInt 4).toNatClampNeg), .int (xs (x3 + Int32.ofInt 5).toNatClampNeg)] ⟨hI.1, hI.2.1, ⟨rv_okR' rfl rfl, rv_full_ok _, rv_full_ok _, rv_full_ok _, rv_full_ok _, rv_full_ok _, trivial⟩, (fun f hf => absurd hf List.not_mem_nil)⟩) wl_L_23 wm_X7_porter wy_X7_porter (by decide) ⟨rfl, rfl⟩ (rest := []) rfl rfl hs (by simp [Value.category]) (fun r V1 hp => ?_)
  obtain ⟨y1, rfl, ya, yb, -, yc⟩ := hp.2.2.1
  replace hI := lw_x hI hp (by decide +kernel)
  clear hp yc
  refine lz_pop X d_law_287 rfl ?_
  refine lz_aload_n X d_law_288 rfl hl2 ?_
  refine lz_arg X hX hbl hL hx3 hl0 hl3 (by decide) d_law_289 d_law_290 d_law_291 d_law_292 d_law_293 ?_
  refine lz_arg X hX hbl hL hx3 hl0 hl3 (by decide) d_law_294 d_law_295 d_law_296 d_law_297 d_law_298 ?_
  refine lz_arg X hX hbl hL hx3 hl0 hl3 (by decide) d_law_299 d_law_300 d_law_301 d_law_302 d_law_303 ?_
  refine lz_arg X hX hbl hL hx3 hl0 hl3 (by decide) d_law_304 d_law_305 d_law_306 d_law_307 d_law_308 ?_
  refine lz_arg X hX hbl hL hx3 hl0 hl3 (by decide) d_law_309 d_law_310 d_law_311 d_law_312 d_law_313 ?_
  refine lz_call X Y d_law_314 (i := 80) (m_X8_porter_0 hAd hZ V1 [.ref (ad 80), .int (xs (x3 + Int32.ofInt 1).toNatClampNeg), .int (xs (x3 + Int32.ofInt 2).toNatClampNeg), .int (xs (x3 + Int32.ofInt 3).toNatClampNeg), .int (xs (x3 + Int32.ofInt 4).toNatClampNeg), .int (xs (x3 + Int32.ofInt 5).toNatClampNeg)] ⟨hI.1, hI.2.1, ⟨rv_okR' rfl rfl, rv_full_ok _, rv_full_ok _, rv_full_ok _, rv_full_ok _, rv_full_ok _, trivial⟩, (fun f hf => absurd hf List.not_mem_nil)⟩) wl_L_27 wm_X8_porter wy_X8_porter (by decide) ⟨rfl, rfl⟩ (rest := []) rfl rfl hs (by simp [Value.category]) (fun r V2 hp => ?_)
  obtain ⟨y2, rfl, za, zb, -, zc⟩ := hp.2.2.1
  replace hI := lw_m hI hp (by decide +kernel)
  refine lz_pop X d_law_317 rfl ?_
  refine lz_goto X 1153 d_law_318 (by decide) ?_
  exact next _ hI
theorem lw_c3 {p : Program} {l : Launch} {e : Env} {s : State} {m : MethodId} {args : Array Value} {below : List Frame} {meth : Method} {c : Code} {Q : State → Prop} {D : va_G} {ad : Nat → Nat} {cy : Nat → ClassId} {Z : State → Heap → Prop} (hAd : fm_Ad fm_tm ad) (hZ : fm_Zk (fm_A fm_tm ad) Z) (X : fm_X p s m args c code R_law D fm_cl fm_tm ad cy (lw_Aq s) fm_Ts 4) (Y : fm_Y s fm_nt Z fm_tm ad (lw_Aq s)) {b L n : Nat} {xs : Nat → Int32} (hX : va_X b L xs s s.heap) (hbl : b < s.heap.size) (hL : L ≤ 3072) {x3 : Int32} (hx3 : 0 ≤ x3.toInt ∧ x3.toInt + 6 ≤ L) {V : fm_V} (hI : lw_I n V) (hn : n < 512) {ls : Array Slot} (hl0 : ls[0]? = some (.val (.ref b))) (hl1 : ls[1]? = some (.val (.ref (ad 0)))) (hl2 : ls[2]? = some (.val (.ref (ad 80)))) (hl3 : ls[3]? = some (.val (.int x3))) (hs : ls.size = 4) (next : ∀ V1, lw_I (n + 1) V1 → lz_W p l e s m args below meth c Q D ad cy V1 1153 ls []) : lz_W p l e s m args below meth c Q D ad cy V 321 ls [] := by
  refine lz_aload_n X d_law_321 rfl hl1 ?_
  refine lz_arg X hX hbl hL hx3 hl0 hl3 (by decide) d_law_322 d_law_323 d_law_324 d_law_325 d_law_326 ?_
  refine lz_arg X hX hbl hL hx3 hl0 hl3 (by decide) d_law_327 d_law_328 d_law_329 d_law_330 d_law_331 ?_
  refine lz_call X Y d_law_332 (i := 0) (m_X7_licence_0 hAd hZ fm_G_gd V [.ref (ad 0), .int (xs (x3 + Int32.ofInt 1).toNatClampNeg), .int (xs (x3 + Int32.ofInt 2).toNatClampNeg)] ⟨hI.1, hI.2.1, ⟨rv_okR' rfl rfl, rv_full_ok _, rv_full_ok _, trivial⟩, (fun f hf => absurd hf List.not_mem_nil)⟩) wl_L_28 wm_X7_licence wy_X7_licence (by decide) ⟨rfl, rfl⟩ (rest := []) rfl rfl hs (by simp [Value.category]) (fun r V1 hp => ?_)
  obtain ⟨y1, rfl, ya, yb, -, yc⟩ := hp.2.2.1
  replace hI := lw_x hI hp (by decide +kernel)
  clear hp yc
  refine lz_pop X d_law_335 rfl ?_
  refine lz_aload_n X d_law_336 rfl hl2 ?_
  refine lz_arg X hX hbl hL hx3 hl0 hl3 (by decide) d_law_337 d_law_338 d_law_339 d_law_340 d_law_341 ?_
  refine lz_arg X hX hbl hL hx3 hl0 hl3 (by decide) d_law_342 d_law_343 d_law_344 d_law_345 d_law_346 ?_
  refine lz_call X Y d_law_347 (i := 80) (m_X8_licence_0 hAd hZ V1 [.ref (ad 80), .int (xs (x3 + Int32.ofInt 1).toNatClampNeg), .int (xs (x3 + Int32.ofInt 2).toNatClampNeg)] ⟨hI.1, hI.2.1, ⟨rv_okR' rfl rfl, rv_full_ok _, rv_full_ok _, trivial⟩, (fun f hf => absurd hf List.not_mem_nil)⟩) wl_L_31 wm_X8_licence wy_X8_licence (by decide) ⟨rfl, rfl⟩ (rest := []) rfl rfl hs (by simp [Value.category]) (fun r V2 hp => ?_)
  obtain ⟨y2, rfl, za, zb, -, zc⟩ := hp.2.2.1
  replace hI := lw_m hI hp (by decide +kernel)
  refine lz_pop X d_law_350 rfl ?_
  refine lz_goto X 1153 d_law_351 (by decide) ?_
  exact next _ hI
theorem lw_c4 {p : Program} {l : Launch} {e : Env} {s : State} {m : MethodId} {args : Array Value} {below : List Frame} {meth : Method} {c : Code} {Q : State → Prop} {D : va_G} {ad : Nat → Nat} {cy : Nat → ClassId} {Z : State → Heap → Prop} (hAd : fm_Ad fm_tm ad) (hZ : fm_Zk (fm_A fm_tm ad) Z) (X : fm_X p s m args c code R_law D fm_cl fm_tm ad cy (lw_Aq s) fm_Ts 4) (Y : fm_Y s fm_nt Z fm_tm ad (lw_Aq s)) {b L n : Nat} {xs : Nat → Int32} (hX : va_X b L xs s s.heap) (hbl : b < s.heap.size) (hL : L ≤ 3072) {x3 : Int32} (hx3 : 0 ≤ x3.toInt ∧ x3.toInt + 6 ≤ L) {V : fm_V} (hI : lw_I n V) (hn : n < 512) {ls : Array Slot} (hl0 : ls[0]? = some (.val (.ref b))) (hl1 : ls[1]? = some (.val (.ref (ad 0)))) (hl2 : ls[2]? = some (.val (.ref (ad 80)))) (hl3 : ls[3]? = some (.val (.int x3))) (hs : ls.size = 4) (next : ∀ V1, lw_I (n + 1) V1 → lz_W p l e s m args below meth c Q D ad cy V1 1153 ls []) : lz_W p l e s m args below meth c Q D ad cy V 354 ls [] := by
  refine lz_aload_n X d_law_354 rfl hl1 ?_
  refine lz_arg X hX hbl hL hx3 hl0 hl3 (by decide) d_law_355 d_law_356 d_law_357 d_law_358 d_law_359 ?_
  refine lz_arg X hX hbl hL hx3 hl0 hl3 (by decide) d_law_360 d_law_361 d_law_362 d_law_363 d_law_364 ?_
  refine lz_call X Y d_law_365 (i := 0) (m_X7_skill_0 hAd hZ fm_G_gd V [.ref (ad 0), .int (xs (x3 + Int32.ofInt 1).toNatClampNeg), .int (xs (x3 + Int32.ofInt 2).toNatClampNeg)] ⟨hI.1, hI.2.1, ⟨rv_okR' rfl rfl, rv_full_ok _, rv_full_ok _, trivial⟩, (fun f hf => absurd hf List.not_mem_nil)⟩) wl_L_32 wm_X7_skill wy_X7_skill (by decide) ⟨rfl, rfl⟩ (rest := []) rfl rfl hs (by simp [Value.category]) (fun r V1 hp => ?_)
  obtain ⟨y1, rfl, ya, yb, -, yc⟩ := hp.2.2.1
  replace hI := lw_x hI hp (by decide +kernel)
  clear hp yc
  refine lz_pop X d_law_368 rfl ?_
  refine lz_aload_n X d_law_369 rfl hl2 ?_
  refine lz_arg X hX hbl hL hx3 hl0 hl3 (by decide) d_law_370 d_law_371 d_law_372 d_law_373 d_law_374 ?_
  refine lz_arg X hX hbl hL hx3 hl0 hl3 (by decide) d_law_375 d_law_376 d_law_377 d_law_378 d_law_379 ?_
  refine lz_call X Y d_law_380 (i := 80) (m_X8_skill_0 hAd hZ V1 [.ref (ad 80), .int (xs (x3 + Int32.ofInt 1).toNatClampNeg), .int (xs (x3 + Int32.ofInt 2).toNatClampNeg)] ⟨hI.1, hI.2.1, ⟨rv_okR' rfl rfl, rv_full_ok _, rv_full_ok _, trivial⟩, (fun f hf => absurd hf List.not_mem_nil)⟩) wl_L_35 wm_X8_skill wy_X8_skill (by decide) ⟨rfl, rfl⟩ (rest := []) rfl rfl hs (by simp [Value.category]) (fun r V2 hp => ?_)
  obtain ⟨y2, rfl, za, zb, -, zc⟩ := hp.2.2.1
  replace hI := lw_m hI hp (by decide +kernel)
  refine lz_pop X d_law_383 rfl ?_
  refine lz_goto X 1153 d_law_384 (by decide) ?_
  exact next _ hI
theorem lw_c5 {p : Program} {l : Launch} {e : Env} {s : State} {m : MethodId} {args : Array Value} {below : List Frame} {meth : Method} {c : Code} {Q : State → Prop} {D : va_G} {ad : Nat → Nat} {cy : Nat → ClassId} {Z : State → Heap → Prop} (hAd : fm_Ad fm_tm ad) (hZ : fm_Zk (fm_A fm_tm ad) Z) (X : fm_X p s m args c code R_law D fm_cl fm_tm ad cy (lw_Aq s) fm_Ts 4) (Y : fm_Y s fm_nt Z fm_tm ad (lw_Aq s)) {b L n : Nat} {xs : Nat → Int32} (hX : va_X b L xs s s.heap) (hbl : b < s.heap.size) (hL : L ≤ 3072) {x3 : Int32} (hx3 : 0 ≤ x3.toInt ∧ x3.toInt + 6 ≤ L) {V : fm_V} (hI : lw_I n V) (hn : n < 512) {ls : Array Slot} (hl0 : ls[0]? = some (.val (.ref b))) (hl1 : ls[1]? = some (.val (.ref (ad 0)))) (hl2 : ls[2]? = some (.val (.ref (ad 80)))) (hl3 : ls[3]? = some (.val (.int x3))) (hs : ls.size = 4) (next : ∀ V1, lw_I (n + 1) V1 → lz_W p l e s m args below meth c Q D ad cy V1 1153 ls []) : lz_W p l e s m args below meth c Q D ad cy V 387 ls [] := by
  refine lz_aload_n X d_law_387 rfl hl1 ?_
  refine lz_arg X hX hbl hL hx3 hl0 hl3 (by decide) d_law_388 d_law_389 d_law_390 d_law_391 d_law_392 ?_
  refine lz_arg X hX hbl hL hx3 hl0 hl3 (by decide) d_law_393 d_law_394 d_law_395 d_law_396 d_law_397 ?_
  refine lz_arg X hX hbl hL hx3 hl0 hl3 (by decide) d_law_398 d_law_399 d_law_400 d_law_401 d_law_402 ?_
  refine lz_arg X hX hbl hL hx3 hl0 hl3 (by decide) d_law_403 d_law_404 d_law_405 d_law_406 d_law_407 ?_
  refine lz_arg X hX hbl hL hx3 hl0 hl3 (by decide) d_law_408 d_law_409 d_law_410 d_law_411 d_law_412 ?_
  refine lz_call X Y d_law_413 (i := 0) (m_X7_feed_0 hAd hZ fm_G_gd V [.ref (ad 0), .int (xs (x3 + Int32.ofInt 1).toNatClampNeg), .int (xs (x3 + Int32.ofInt 2).toNatClampNeg), .int (xs (x3 + Int32.ofInt 3).toNatClampNeg), .int (xs (x3 + Int32.ofInt 4).toNatClampNeg), .int (xs (x3 + Int32.ofInt 5).toNatClampNeg)] ⟨hI.1, hI.2.1, ⟨rv_okR' rfl rfl, rv_full_ok _, rv_full_ok _, rv_full_ok _, rv_full_ok _, rv_full_ok _, trivial⟩, (fun f hf => absurd hf List.not_mem_nil)⟩) wl_L_36 wm_X7_feed wy_X7_feed (by decide) ⟨rfl, rfl⟩ (rest := []) rfl rfl hs (by simp [Value.category]) (fun r V1 hp => ?_)
  obtain ⟨y1, rfl, ya, yb, -, yc⟩ := hp.2.2.1
  replace hI := lw_x hI hp (by decide +kernel)
  clear hp yc
  refine lz_pop X d_law_416 rfl ?_
  refine lz_aload_n X d_law_417 rfl hl2 ?_
  refine lz_arg X hX hbl hL hx3 hl0 hl3 (by decide) d_law_418 d_law_419 d_law_420 d_law_421 d_law_422 ?_
  refine lz_arg X hX hbl hL hx3 hl0 hl3 (by decide) d_law_423 d_law_424 d_law_425 d_law_426 d_law_427 ?_
  refine lz_arg X hX hbl hL hx3 hl0 hl3 (by decide) d_law_428 d_law_429 d_law_430 d_law_431 d_law_432 ?_
  refine lz_arg X hX hbl hL hx3 hl0 hl3 (by decide) d_law_433 d_law_434 d_law_435 d_law_436 d_law_437 ?_
  refine lz_arg X hX hbl hL hx3 hl0 hl3 (by decide) d_law_438 d_law_439 d_law_440 d_law_441 d_law_442 ?_
  refine lz_call X Y d_law_443 (i := 80) (m_X8_feed_0 hAd hZ V1 [.ref (ad 80), .int (xs (x3 + Int32.ofInt 1).toNatClampNeg), .int (xs (x3 + Int32.ofInt 2).toNatClampNeg), .int (xs (x3 + Int32.ofInt 3).toNatClampNeg), .int (xs (x3 + Int32.ofInt 4).toNatClampNeg), .int (xs (x3 + Int32.ofInt 5).toNatClampNeg)] ⟨hI.1, hI.2.1, ⟨rv_okR' rfl rfl, rv_full_ok _, rv_full_ok _, rv_full_ok _, rv_full_ok _, rv_full_ok _, trivial⟩, (fun f hf => absurd hf List.not_mem_nil)⟩) wl_L_40 wm_X8_feed wy_X8_feed (by decide) ⟨rfl, rfl⟩ (rest := []) rfl rfl hs (by simp [Value.category]) (fun r V2 hp => ?_)
  obtain ⟨y2, rfl, za, zb, -, zc⟩ := hp.2.2.1
  replace hI := lw_m hI hp (by decide +kernel)
  refine lz_pop X d_law_446 rfl ?_
  refine lz_goto X 1153 d_law_447 (by decide) ?_
  exact next _ hI
theorem lw_c6 {p : Program} {l : Launch} {e : Env} {s : State} {m : MethodId} {args : Array Value} {below : List Frame} {meth : Method} {c : Code} {Q : State → Prop} {D : va_G} {ad : Nat → Nat} {cy : Nat → ClassId} {Z : State → Heap → Prop} (hAd : fm_Ad fm_tm ad) (hZ : fm_Zk (fm_A fm_tm ad) Z) (X : fm_X p s m args c code R_law D fm_cl fm_tm ad cy (lw_Aq s) fm_Ts 4) (Y : fm_Y s fm_nt Z fm_tm ad (lw_Aq s)) {b L n : Nat} {xs : Nat → Int32} (hX : va_X b L xs s s.heap) (hbl : b < s.heap.size) (hL : L ≤ 3072) {x3 : Int32} (hx3 : 0 ≤ x3.toInt ∧ x3.toInt + 6 ≤ L) {V : fm_V} (hI : lw_I n V) (hn : n < 512) {ls : Array Slot} (hl0 : ls[0]? = some (.val (.ref b))) (hl1 : ls[1]? = some (.val (.ref (ad 0)))) (hl2 : ls[2]? = some (.val (.ref (ad 80)))) (hl3 : ls[3]? = some (.val (.int x3))) (hs : ls.size = 4) (next : ∀ V1, lw_I (n + 1) V1 → lz_W p l e s m args below meth c Q D ad cy V1 1153 ls []) : lz_W p l e s m args below meth c Q D ad cy V 450 ls [] := by
  refine lz_aload_n X d_law_450 rfl hl1 ?_
  refine lz_arg X hX hbl hL hx3 hl0 hl3 (by decide) d_law_451 d_law_452 d_law_453 d_law_454 d_law_455 ?_
  refine lz_call X Y d_law_456 (i := 0) (m_X7_law_0 hAd hZ fm_G_gd V [.ref (ad 0), .int (xs (x3 + Int32.ofInt 1).toNatClampNeg)] ⟨hI.1, hI.2.1, ⟨rv_okR' rfl rfl, rv_full_ok _, trivial⟩, (fun f hf => absurd hf List.not_mem_nil)⟩) wl_L_41 wm_X7_law wy_X7_law (by decide) ⟨rfl, rfl⟩ (rest := []) rfl rfl hs (by simp [Value.category]) (fun r V1 hp => ?_)
  obtain ⟨y1, rfl, ya, yb, -, yc⟩ := hp.2.2.1
  replace hI := lw_x hI hp (by decide +kernel)
  clear hp yc
  refine lz_pop X d_law_459 rfl ?_
  refine lz_aload_n X d_law_460 rfl hl2 ?_
  refine lz_arg X hX hbl hL hx3 hl0 hl3 (by decide) d_law_461 d_law_462 d_law_463 d_law_464 d_law_465 ?_
  refine lz_call X Y d_law_466 (i := 80) (g_law hAd hZ (V := V1) (x1 := (xs (x3 + Int32.ofInt 1).toNatClampNeg)) hI.1 hI.2.1) wl_L_45 wm_X8_law wy_X8_law (by decide) ⟨rfl, rfl⟩ (rest := []) rfl rfl hs (by simp [Value.category]) (fun r V2 hp => ?_)
  obtain ⟨⟨y2, rfl⟩, hF, hG2⟩ := hp
  replace hI : lw_I (n + 1) V2 := ⟨hF.1, hG2, by rw [hF.2 80 2 (by decide +kernel)]; exact hI.up.2.2.1, by rw [hF.2 125 5 (by decide +kernel)]; exact hI.up.2.2.2.1, by unfold lw_F; rw [hF.2 0 11 (by decide +kernel), hF.2 80 73 (by decide +kernel), hF.2 26 9 (by decide +kernel), hF.2 41 9 (by decide +kernel), hF.2 80 2 (by decide +kernel), hF.2 125 5 (by decide +kernel)]; exact hI.2.2.2.2⟩
  refine lz_pop X d_law_469 rfl ?_
  refine lz_goto X 1153 d_law_470 (by decide) ?_
  exact next _ hI
theorem lw_c7 {p : Program} {l : Launch} {e : Env} {s : State} {m : MethodId} {args : Array Value} {below : List Frame} {meth : Method} {c : Code} {Q : State → Prop} {D : va_G} {ad : Nat → Nat} {cy : Nat → ClassId} {Z : State → Heap → Prop} (hAd : fm_Ad fm_tm ad) (hZ : fm_Zk (fm_A fm_tm ad) Z) (X : fm_X p s m args c code R_law D fm_cl fm_tm ad cy (lw_Aq s) fm_Ts 4) (Y : fm_Y s fm_nt Z fm_tm ad (lw_Aq s)) {b L n : Nat} {xs : Nat → Int32} (hX : va_X b L xs s s.heap) (hbl : b < s.heap.size) (hL : L ≤ 3072) {x3 : Int32} (hx3 : 0 ≤ x3.toInt ∧ x3.toInt + 6 ≤ L) {V : fm_V} (hI : lw_I n V) (hn : n < 512) {ls : Array Slot} (hl0 : ls[0]? = some (.val (.ref b))) (hl1 : ls[1]? = some (.val (.ref (ad 0)))) (hl2 : ls[2]? = some (.val (.ref (ad 80)))) (hl3 : ls[3]? = some (.val (.int x3))) (hs : ls.size = 4) (next : ∀ V1, lw_I (n + 1) V1 → lz_W p l e s m args below meth c Q D ad cy V1 1153 ls []) : lz_W p l e s m args below meth c Q D ad cy V 473 ls [] := by
  by_cases a1 : (xs (x3 + Int32.ofInt 1).toNatClampNeg).toInt ≤ 0
  · skip
    refine lz_aload_n X d_law_473 rfl hl1 ?_
    refine lz_arg X hX hbl hL hx3 hl0 hl3 (by decide) d_law_474 d_law_475 d_law_476 d_law_477 d_law_478 ?_
    refine lz_call X Y d_law_479 (i := 0) (m_X7_hours_1 hAd hZ fm_G_gd V [.ref (ad 0), .int (xs (x3 + Int32.ofInt 1).toNatClampNeg)] ⟨hI.1, hI.2.1, ⟨rv_okR' rfl rfl, rv_okB (lo := -2147483648) (hi := 0) (zi_rng _).1 a1, trivial⟩, (fun f hf => by
      obtain rfl := List.mem_singleton.mp hf
      exact lw_ck hI hn (by decide))⟩) wl_L_46 wm_X7_hours wy_X7_hours (by decide) ⟨rfl, rfl⟩ (rest := []) rfl rfl hs (by simp [Value.category]) (fun r V1 hp => ?_)
    obtain ⟨y1, rfl, -⟩ := hp.2.2.1
    replace hI := lw_x hI hp (by decide +kernel)
    clear hp
    refine lz_pop X d_law_482 rfl ?_
    refine lz_aload_n X d_law_483 rfl hl2 ?_
    refine lz_arg X hX hbl hL hx3 hl0 hl3 (by decide) d_law_484 d_law_485 d_law_486 d_law_487 d_law_488 ?_
    refine lz_call X Y d_law_489 (i := 80) (m_X8_hours_1 hAd hZ V1 [.ref (ad 80), .int (xs (x3 + Int32.ofInt 1).toNatClampNeg)] ⟨hI.1, hI.2.1, ⟨rv_okR' rfl rfl, rv_okB (lo := -2147483648) (hi := 0) (zi_rng _).1 a1, trivial⟩, (fun f hf => by
      obtain rfl := List.mem_singleton.mp hf
      exact lw_hr hI hn (by decide))⟩) wl_L_49 wm_X8_hours wy_X8_hours (by decide) ⟨rfl, rfl⟩ (rest := []) rfl rfl hs (by simp [Value.category]) (fun r V2 hp => ?_)
    obtain ⟨y2, rfl, -⟩ := hp.2.2.1
    replace hI := lw_m hI hp (by decide +kernel)
    refine lz_pop X d_law_492 rfl ?_
    refine lz_goto X 1153 d_law_493 (by decide) ?_
    exact next _ hI
  by_cases a2 : 41 ≤ (xs (x3 + Int32.ofInt 1).toNatClampNeg).toInt
  · skip
    refine lz_aload_n X d_law_473 rfl hl1 ?_
    refine lz_arg X hX hbl hL hx3 hl0 hl3 (by decide) d_law_474 d_law_475 d_law_476 d_law_477 d_law_478 ?_
    refine lz_call X Y d_law_479 (i := 0) (m_X7_hours_2 hAd hZ fm_G_gd V [.ref (ad 0), .int (xs (x3 + Int32.ofInt 1).toNatClampNeg)] ⟨hI.1, hI.2.1, ⟨rv_okR' rfl rfl, rv_okB (lo := 41) (hi := 2147483647) a2 (zi_rng _).2, trivial⟩, (fun f hf => by
      obtain rfl := List.mem_singleton.mp hf
      exact lw_ck hI hn (by decide))⟩) wl_L_46 wm_X7_hours wy_X7_hours (by decide) ⟨rfl, rfl⟩ (rest := []) rfl rfl hs (by simp [Value.category]) (fun r V1 hp => ?_)
    obtain ⟨y1, rfl, -⟩ := hp.2.2.1
    replace hI := lw_x hI hp (by decide +kernel)
    clear hp
    refine lz_pop X d_law_482 rfl ?_
    refine lz_aload_n X d_law_483 rfl hl2 ?_
    refine lz_arg X hX hbl hL hx3 hl0 hl3 (by decide) d_law_484 d_law_485 d_law_486 d_law_487 d_law_488 ?_
    refine lz_call X Y d_law_489 (i := 80) (m_X8_hours_2 hAd hZ V1 [.ref (ad 80), .int (xs (x3 + Int32.ofInt 1).toNatClampNeg)] ⟨hI.1, hI.2.1, ⟨rv_okR' rfl rfl, rv_okB (lo := 41) (hi := 2147483647) a2 (zi_rng _).2, trivial⟩, (fun f hf => by
      obtain rfl := List.mem_singleton.mp hf
      exact lw_hr hI hn (by decide))⟩) wl_L_49 wm_X8_hours wy_X8_hours (by decide) ⟨rfl, rfl⟩ (rest := []) rfl rfl hs (by simp [Value.category]) (fun r V2 hp => ?_)
    obtain ⟨y2, rfl, -⟩ := hp.2.2.1
    replace hI := lw_m hI hp (by decide +kernel)
    refine lz_pop X d_law_492 rfl ?_
    refine lz_goto X 1153 d_law_493 (by decide) ?_
    exact next _ hI
  refine lz_aload_n X d_law_473 rfl hl1 ?_
  refine lz_arg X hX hbl hL hx3 hl0 hl3 (by decide) d_law_474 d_law_475 d_law_476 d_law_477 d_law_478 ?_
  refine lz_call X Y d_law_479 (i := 0) (e_hours7 hAd hZ (V := V) (x1 := (xs (x3 + Int32.ofInt 1).toNatClampNeg)) hI.1 hI.2.1 ⟨by omega, by omega⟩ (lw_ck hI hn (by decide))) wl_L_46 wm_X7_hours wy_X7_hours (by decide) ⟨rfl, rfl⟩ (rest := []) rfl rfl hs (by simp [Value.category]) (fun r V1 hp => ?_)
  obtain ⟨hF, ⟨y1, rfl⟩, hcc⟩ := hp
  replace hI := lw_xz hI hF (by decide +kernel) hcc
  clear hF hcc
  refine lz_pop X d_law_482 rfl ?_
  refine lz_aload_n X d_law_483 rfl hl2 ?_
  refine lz_arg X hX hbl hL hx3 hl0 hl3 (by decide) d_law_484 d_law_485 d_law_486 d_law_487 d_law_488 ?_
  refine lz_call X Y d_law_489 (i := 80) (e_hours8 hAd hZ (V := V1) (x1 := (xs (x3 + Int32.ofInt 1).toNatClampNeg)) hI.1 hI.2.1 ⟨by omega, by omega⟩ (lw_hr hI hn (by decide))) wl_L_49 wm_X8_hours wy_X8_hours (by decide) ⟨rfl, rfl⟩ (rest := []) rfl rfl hs (by simp [Value.category]) (fun r V2 hp => ?_)
  obtain ⟨hF, ⟨y2, rfl⟩, hcc⟩ := hp
  replace hI : lw_I (n + 1) V2 := lw_go hI hF (by decide +kernel) (by constructor <;> omega) hcc
  refine lz_pop X d_law_492 rfl ?_
  refine lz_goto X 1153 d_law_493 (by decide) ?_
  exact next _ hI
theorem lw_c8 {p : Program} {l : Launch} {e : Env} {s : State} {m : MethodId} {args : Array Value} {below : List Frame} {meth : Method} {c : Code} {Q : State → Prop} {D : va_G} {ad : Nat → Nat} {cy : Nat → ClassId} {Z : State → Heap → Prop} (hAd : fm_Ad fm_tm ad) (hZ : fm_Zk (fm_A fm_tm ad) Z) (X : fm_X p s m args c code R_law D fm_cl fm_tm ad cy (lw_Aq s) fm_Ts 4) (Y : fm_Y s fm_nt Z fm_tm ad (lw_Aq s)) {b L n : Nat} {xs : Nat → Int32} (hX : va_X b L xs s s.heap) (hbl : b < s.heap.size) (hL : L ≤ 3072) {x3 : Int32} (hx3 : 0 ≤ x3.toInt ∧ x3.toInt + 6 ≤ L) {V : fm_V} (hI : lw_I n V) (hn : n < 512) {ls : Array Slot} (hl0 : ls[0]? = some (.val (.ref b))) (hl1 : ls[1]? = some (.val (.ref (ad 0)))) (hl2 : ls[2]? = some (.val (.ref (ad 80)))) (hl3 : ls[3]? = some (.val (.int x3))) (hs : ls.size = 4) (next : ∀ V1, lw_I (n + 1) V1 → lz_W p l e s m args below meth c Q D ad cy V1 1153 ls []) : lz_W p l e s m args below meth c Q D ad cy V 496 ls [] := by
  by_cases a1 : (xs (x3 + Int32.ofInt 1).toNatClampNeg).toInt ≤ -1
  · skip
    refine lz_aload_n X d_law_496 rfl hl1 ?_
    refine lz_arg X hX hbl hL hx3 hl0 hl3 (by decide) d_law_497 d_law_498 d_law_499 d_law_500 d_law_501 ?_
    refine lz_call X Y d_law_502 (i := 0) (m_X7_hour_2 hAd hZ fm_G_gd V [.ref (ad 0), .int (xs (x3 + Int32.ofInt 1).toNatClampNeg)] ⟨hI.1, hI.2.1, ⟨rv_okR' rfl rfl, rv_okB (lo := -2147483648) (hi := -1) (zi_rng _).1 a1, trivial⟩, (fun f hf => by
      obtain rfl := List.mem_singleton.mp hf
      exact lw_ck hI hn (by decide))⟩) wl_L_50 wm_X7_hour wy_X7_hour (by decide) ⟨rfl, rfl⟩ (rest := []) rfl rfl hs (by simp [Value.category]) (fun r V1 hp => ?_)
    obtain ⟨y1, rfl, -⟩ := hp.2.2.1
    replace hI := lw_x hI hp (by decide +kernel)
    clear hp
    refine lz_pop X d_law_505 rfl ?_
    refine lz_aload_n X d_law_506 rfl hl2 ?_
    refine lz_arg X hX hbl hL hx3 hl0 hl3 (by decide) d_law_507 d_law_508 d_law_509 d_law_510 d_law_511 ?_
    refine lz_call X Y d_law_512 (i := 80) (m_X8_hour_2 hAd hZ V1 [.ref (ad 80), .int (xs (x3 + Int32.ofInt 1).toNatClampNeg)] ⟨hI.1, hI.2.1, ⟨rv_okR' rfl rfl, rv_okB (lo := -2147483648) (hi := -1) (zi_rng _).1 a1, trivial⟩, (fun f hf => by
      obtain rfl := List.mem_singleton.mp hf
      exact lw_hr hI hn (by decide))⟩) wl_L_53 wm_X8_hour wy_X8_hour (by decide) ⟨rfl, rfl⟩ (rest := []) rfl rfl hs (by simp [Value.category]) (fun r V2 hp => ?_)
    obtain ⟨y2, rfl, -⟩ := hp.2.2.1
    replace hI := lw_m hI hp (by decide +kernel)
    refine lz_pop X d_law_515 rfl ?_
    refine lz_goto X 1153 d_law_516 (by decide) ?_
    exact next _ hI
  by_cases a2 : 10 ≤ (xs (x3 + Int32.ofInt 1).toNatClampNeg).toInt
  · skip
    refine lz_aload_n X d_law_496 rfl hl1 ?_
    refine lz_arg X hX hbl hL hx3 hl0 hl3 (by decide) d_law_497 d_law_498 d_law_499 d_law_500 d_law_501 ?_
    refine lz_call X Y d_law_502 (i := 0) (m_X7_hour_3 hAd hZ fm_G_gd V [.ref (ad 0), .int (xs (x3 + Int32.ofInt 1).toNatClampNeg)] ⟨hI.1, hI.2.1, ⟨rv_okR' rfl rfl, rv_okB (lo := 10) (hi := 2147483647) a2 (zi_rng _).2, trivial⟩, (fun f hf => by
      obtain rfl := List.mem_singleton.mp hf
      exact lw_ck hI hn (by decide))⟩) wl_L_50 wm_X7_hour wy_X7_hour (by decide) ⟨rfl, rfl⟩ (rest := []) rfl rfl hs (by simp [Value.category]) (fun r V1 hp => ?_)
    obtain ⟨y1, rfl, -⟩ := hp.2.2.1
    replace hI := lw_x hI hp (by decide +kernel)
    clear hp
    refine lz_pop X d_law_505 rfl ?_
    refine lz_aload_n X d_law_506 rfl hl2 ?_
    refine lz_arg X hX hbl hL hx3 hl0 hl3 (by decide) d_law_507 d_law_508 d_law_509 d_law_510 d_law_511 ?_
    refine lz_call X Y d_law_512 (i := 80) (m_X8_hour_3 hAd hZ V1 [.ref (ad 80), .int (xs (x3 + Int32.ofInt 1).toNatClampNeg)] ⟨hI.1, hI.2.1, ⟨rv_okR' rfl rfl, rv_okB (lo := 10) (hi := 2147483647) a2 (zi_rng _).2, trivial⟩, (fun f hf => by
      obtain rfl := List.mem_singleton.mp hf
      exact lw_hr hI hn (by decide))⟩) wl_L_53 wm_X8_hour wy_X8_hour (by decide) ⟨rfl, rfl⟩ (rest := []) rfl rfl hs (by simp [Value.category]) (fun r V2 hp => ?_)
    obtain ⟨y2, rfl, -⟩ := hp.2.2.1
    replace hI := lw_m hI hp (by decide +kernel)
    refine lz_pop X d_law_515 rfl ?_
    refine lz_goto X 1153 d_law_516 (by decide) ?_
    exact next _ hI
  refine lz_aload_n X d_law_496 rfl hl1 ?_
  refine lz_arg X hX hbl hL hx3 hl0 hl3 (by decide) d_law_497 d_law_498 d_law_499 d_law_500 d_law_501 ?_
  refine lz_call X Y d_law_502 (i := 0) (m_X7_hour_1 hAd hZ fm_G_gd V [.ref (ad 0), .int (xs (x3 + Int32.ofInt 1).toNatClampNeg)] ⟨hI.1, hI.2.1, ⟨rv_okR' rfl rfl, rv_okB (lo := 0) (hi := 9) (by omega) (by omega), trivial⟩, (fun f hf => by
      obtain rfl := List.mem_singleton.mp hf
      exact lw_ck hI hn (by decide))⟩) wl_L_50 wm_X7_hour wy_X7_hour (by decide) ⟨rfl, rfl⟩ (rest := []) rfl rfl hs (by simp [Value.category]) (fun r V1 hp => ?_)
  obtain ⟨y1, rfl, -⟩ := hp.2.2.1
  have q2 := (hp.2.2.2 ((26, 9), 1, 2000000001, [((26, 9), 1, 1)]) (List.mem_singleton.mpr rfl)).2 ((26, 9), 1, 1) (List.mem_singleton.mpr rfl)
  have hcc : (V1 26 9).toInt = (V 26 9).toInt + 1 := by have a : (1 : Int) ≤ (V1 26 9).toInt - (V 26 9).toInt := q2.1; have b : (V1 26 9).toInt - (V 26 9).toInt ≤ (1 : Int) := q2.2; omega
  replace hI := lw_xz (z := 1) hI ⟨hp.1, hp.2.1⟩ (by decide +kernel) hcc
  clear q2 hcc
  clear hp
  refine lz_pop X d_law_505 rfl ?_
  refine lz_aload_n X d_law_506 rfl hl2 ?_
  refine lz_arg X hX hbl hL hx3 hl0 hl3 (by decide) d_law_507 d_law_508 d_law_509 d_law_510 d_law_511 ?_
  refine lz_call X Y d_law_512 (i := 80) (m_X8_hour_1 hAd hZ V1 [.ref (ad 80), .int (xs (x3 + Int32.ofInt 1).toNatClampNeg)] ⟨hI.1, hI.2.1, ⟨rv_okR' rfl rfl, rv_okB (lo := 0) (hi := 9) (by omega) (by omega), trivial⟩, (fun f hf => by
      obtain rfl := List.mem_singleton.mp hf
      exact lw_hr hI hn (by decide))⟩) wl_L_53 wm_X8_hour wy_X8_hour (by decide) ⟨rfl, rfl⟩ (rest := []) rfl rfl hs (by simp [Value.category]) (fun r V2 hp => ?_)
  obtain ⟨y2, rfl, -⟩ := hp.2.2.1
  have q2 := (hp.2.2.2 ((80, 2), 1, 500000001, [((80, 2), 1, 1)]) (List.mem_singleton.mpr rfl)).2 ((80, 2), 1, 1) (List.mem_singleton.mpr rfl)
  have hcc : (V2 80 2).toInt = (V1 80 2).toInt + 1 := by have a : (1 : Int) ≤ (V2 80 2).toInt - (V1 80 2).toInt := q2.1; have b : (V2 80 2).toInt - (V1 80 2).toInt ≤ (1 : Int) := q2.2; omega
  replace hI : lw_I (n + 1) V2 := lw_go hI ⟨hp.1, hp.2.1⟩ (by decide +kernel) (by decide) hcc
  refine lz_pop X d_law_515 rfl ?_
  refine lz_goto X 1153 d_law_516 (by decide) ?_
  exact next _ hI
theorem lw_c9 {p : Program} {l : Launch} {e : Env} {s : State} {m : MethodId} {args : Array Value} {below : List Frame} {meth : Method} {c : Code} {Q : State → Prop} {D : va_G} {ad : Nat → Nat} {cy : Nat → ClassId} {Z : State → Heap → Prop} (hAd : fm_Ad fm_tm ad) (hZ : fm_Zk (fm_A fm_tm ad) Z) (X : fm_X p s m args c code R_law D fm_cl fm_tm ad cy (lw_Aq s) fm_Ts 4) (Y : fm_Y s fm_nt Z fm_tm ad (lw_Aq s)) {b L n : Nat} {xs : Nat → Int32} (hX : va_X b L xs s s.heap) (hbl : b < s.heap.size) (hL : L ≤ 3072) {x3 : Int32} (hx3 : 0 ≤ x3.toInt ∧ x3.toInt + 6 ≤ L) {V : fm_V} (hI : lw_I n V) (hn : n < 512) {ls : Array Slot} (hl0 : ls[0]? = some (.val (.ref b))) (hl1 : ls[1]? = some (.val (.ref (ad 0)))) (hl2 : ls[2]? = some (.val (.ref (ad 80)))) (hl3 : ls[3]? = some (.val (.int x3))) (hs : ls.size = 4) (next : ∀ V1, lw_I (n + 1) V1 → lz_W p l e s m args below meth c Q D ad cy V1 1153 ls []) : lz_W p l e s m args below meth c Q D ad cy V 519 ls [] := by
  refine lz_aload_n X d_law_519 rfl hl1 ?_
  refine lz_arg X hX hbl hL hx3 hl0 hl3 (by decide) d_law_520 d_law_521 d_law_522 d_law_523 d_law_524 ?_
  refine lz_arg X hX hbl hL hx3 hl0 hl3 (by decide) d_law_525 d_law_526 d_law_527 d_law_528 d_law_529 ?_
  refine lz_call X Y d_law_530 (i := 0) (m_X7_yardIs_0 hAd hZ fm_G_gd V [.ref (ad 0), .int (xs (x3 + Int32.ofInt 1).toNatClampNeg), .int (xs (x3 + Int32.ofInt 2).toNatClampNeg)] ⟨hI.1, hI.2.1, ⟨rv_okR' rfl rfl, rv_full_ok _, rv_full_ok _, trivial⟩, (fun f hf => absurd hf List.not_mem_nil)⟩) wl_L_54 wm_X7_yardIs wy_X7_yardIs (by decide) ⟨rfl, rfl⟩ (rest := []) rfl rfl hs (by simp [Value.category]) (fun r V1 hp => ?_)
  obtain ⟨y1, rfl, ya, yb, -, yc⟩ := hp.2.2.1
  replace hI := lw_x hI hp (by decide +kernel)
  clear hp yc
  refine lz_pop X d_law_533 rfl ?_
  refine lz_aload_n X d_law_534 rfl hl2 ?_
  refine lz_arg X hX hbl hL hx3 hl0 hl3 (by decide) d_law_535 d_law_536 d_law_537 d_law_538 d_law_539 ?_
  refine lz_arg X hX hbl hL hx3 hl0 hl3 (by decide) d_law_540 d_law_541 d_law_542 d_law_543 d_law_544 ?_
  refine lz_call X Y d_law_545 (i := 80) (m_X8_yardIs_0 hAd hZ V1 [.ref (ad 80), .int (xs (x3 + Int32.ofInt 1).toNatClampNeg), .int (xs (x3 + Int32.ofInt 2).toNatClampNeg)] ⟨hI.1, hI.2.1, ⟨rv_okR' rfl rfl, rv_full_ok _, rv_full_ok _, trivial⟩, (fun f hf => absurd hf List.not_mem_nil)⟩) wl_L_58 wm_X8_yardIs wy_X8_yardIs (by decide) ⟨rfl, rfl⟩ (rest := []) rfl rfl hs (by simp [Value.category]) (fun r V2 hp => ?_)
  obtain ⟨y2, rfl, za, zb, -, zc⟩ := hp.2.2.1
  replace hI := lw_m hI hp (by decide +kernel)
  refine lz_pop X d_law_548 rfl ?_
  refine lz_goto X 1153 d_law_549 (by decide) ?_
  exact next _ hI
theorem lw_c10 {p : Program} {l : Launch} {e : Env} {s : State} {m : MethodId} {args : Array Value} {below : List Frame} {meth : Method} {c : Code} {Q : State → Prop} {D : va_G} {ad : Nat → Nat} {cy : Nat → ClassId} {Z : State → Heap → Prop} (hAd : fm_Ad fm_tm ad) (hZ : fm_Zk (fm_A fm_tm ad) Z) (X : fm_X p s m args c code R_law D fm_cl fm_tm ad cy (lw_Aq s) fm_Ts 4) (Y : fm_Y s fm_nt Z fm_tm ad (lw_Aq s)) {b L n : Nat} {xs : Nat → Int32} (hX : va_X b L xs s s.heap) (hbl : b < s.heap.size) (hL : L ≤ 3072) {x3 : Int32} (hx3 : 0 ≤ x3.toInt ∧ x3.toInt + 6 ≤ L) {V : fm_V} (hI : lw_I n V) (hn : n < 512) {ls : Array Slot} (hl0 : ls[0]? = some (.val (.ref b))) (hl1 : ls[1]? = some (.val (.ref (ad 0)))) (hl2 : ls[2]? = some (.val (.ref (ad 80)))) (hl3 : ls[3]? = some (.val (.int x3))) (hs : ls.size = 4) (next : ∀ V1, lw_I (n + 1) V1 → lz_W p l e s m args below meth c Q D ad cy V1 1153 ls []) : lz_W p l e s m args below meth c Q D ad cy V 552 ls [] := by
  refine lz_aload_n X d_law_552 rfl hl1 ?_
  refine lz_arg X hX hbl hL hx3 hl0 hl3 (by decide) d_law_553 d_law_554 d_law_555 d_law_556 d_law_557 ?_
  refine lz_arg X hX hbl hL hx3 hl0 hl3 (by decide) d_law_558 d_law_559 d_law_560 d_law_561 d_law_562 ?_
  refine lz_call X Y d_law_563 (i := 0) (m_X7_porterIs_0 hAd hZ fm_G_gd V [.ref (ad 0), .int (xs (x3 + Int32.ofInt 1).toNatClampNeg), .int (xs (x3 + Int32.ofInt 2).toNatClampNeg)] ⟨hI.1, hI.2.1, ⟨rv_okR' rfl rfl, rv_full_ok _, rv_full_ok _, trivial⟩, (fun f hf => absurd hf List.not_mem_nil)⟩) wl_L_59 wm_X7_porterIs wy_X7_porterIs (by decide) ⟨rfl, rfl⟩ (rest := []) rfl rfl hs (by simp [Value.category]) (fun r V1 hp => ?_)
  obtain ⟨y1, rfl, ya, yb, -, yc⟩ := hp.2.2.1
  replace hI := lw_x hI hp (by decide +kernel)
  clear hp yc
  refine lz_pop X d_law_566 rfl ?_
  refine lz_aload_n X d_law_567 rfl hl2 ?_
  refine lz_arg X hX hbl hL hx3 hl0 hl3 (by decide) d_law_568 d_law_569 d_law_570 d_law_571 d_law_572 ?_
  refine lz_arg X hX hbl hL hx3 hl0 hl3 (by decide) d_law_573 d_law_574 d_law_575 d_law_576 d_law_577 ?_
  refine lz_call X Y d_law_578 (i := 80) (m_X8_porterIs_0 hAd hZ V1 [.ref (ad 80), .int (xs (x3 + Int32.ofInt 1).toNatClampNeg), .int (xs (x3 + Int32.ofInt 2).toNatClampNeg)] ⟨hI.1, hI.2.1, ⟨rv_okR' rfl rfl, rv_full_ok _, rv_full_ok _, trivial⟩, (fun f hf => by
      obtain rfl := List.mem_singleton.mp hf
      exact lw_hr hI hn (by decide))⟩) wl_L_62 wm_X8_porterIs wy_X8_porterIs (by decide) ⟨rfl, rfl⟩ (rest := []) rfl rfl hs (by simp [Value.category]) (fun r V2 hp => ?_)
  obtain ⟨y2, rfl, za, zb, -, zc⟩ := hp.2.2.1
  replace hI := lw_m hI hp (by decide +kernel)
  refine lz_pop X d_law_581 rfl ?_
  refine lz_goto X 1153 d_law_582 (by decide) ?_
  exact next _ hI
theorem lw_c11 {p : Program} {l : Launch} {e : Env} {s : State} {m : MethodId} {args : Array Value} {below : List Frame} {meth : Method} {c : Code} {Q : State → Prop} {D : va_G} {ad : Nat → Nat} {cy : Nat → ClassId} {Z : State → Heap → Prop} (hAd : fm_Ad fm_tm ad) (hZ : fm_Zk (fm_A fm_tm ad) Z) (X : fm_X p s m args c code R_law D fm_cl fm_tm ad cy (lw_Aq s) fm_Ts 4) (Y : fm_Y s fm_nt Z fm_tm ad (lw_Aq s)) {b L n : Nat} {xs : Nat → Int32} (hX : va_X b L xs s s.heap) (hbl : b < s.heap.size) (hL : L ≤ 3072) {x3 : Int32} (hx3 : 0 ≤ x3.toInt ∧ x3.toInt + 6 ≤ L) {V : fm_V} (hI : lw_I n V) (hn : n < 512) {ls : Array Slot} (hl0 : ls[0]? = some (.val (.ref b))) (hl1 : ls[1]? = some (.val (.ref (ad 0)))) (hl2 : ls[2]? = some (.val (.ref (ad 80)))) (hl3 : ls[3]? = some (.val (.int x3))) (hs : ls.size = 4) (next : ∀ V1, lw_I (n + 1) V1 → lz_W p l e s m args below meth c Q D ad cy V1 1153 ls []) : lz_W p l e s m args below meth c Q D ad cy V 585 ls [] := by
  refine lz_aload_n X d_law_585 rfl hl1 ?_
  refine lz_arg X hX hbl hL hx3 hl0 hl3 (by decide) d_law_586 d_law_587 d_law_588 d_law_589 d_law_590 ?_
  refine lz_arg X hX hbl hL hx3 hl0 hl3 (by decide) d_law_591 d_law_592 d_law_593 d_law_594 d_law_595 ?_
  refine lz_call X Y d_law_596 (i := 0) (m_X7_tried_0 hAd hZ fm_G_gd V [.ref (ad 0), .int (xs (x3 + Int32.ofInt 1).toNatClampNeg), .int (xs (x3 + Int32.ofInt 2).toNatClampNeg)] ⟨hI.1, hI.2.1, ⟨rv_okR' rfl rfl, rv_full_ok _, rv_full_ok _, trivial⟩, (fun f hf => absurd hf List.not_mem_nil)⟩) wl_L_63 wm_X7_tried wy_X7_tried (by decide) ⟨rfl, rfl⟩ (rest := []) rfl rfl hs (by simp [Value.category]) (fun r V1 hp => ?_)
  obtain ⟨y1, rfl, ya, yb, -, yc⟩ := hp.2.2.1
  replace hI := lw_x hI hp (by decide +kernel)
  clear hp yc
  refine lz_pop X d_law_599 rfl ?_
  refine lz_aload_n X d_law_600 rfl hl2 ?_
  refine lz_arg X hX hbl hL hx3 hl0 hl3 (by decide) d_law_601 d_law_602 d_law_603 d_law_604 d_law_605 ?_
  refine lz_arg X hX hbl hL hx3 hl0 hl3 (by decide) d_law_606 d_law_607 d_law_608 d_law_609 d_law_610 ?_
  refine lz_call X Y d_law_611 (i := 80) (m_X8_tried_0 hAd hZ V1 [.ref (ad 80), .int (xs (x3 + Int32.ofInt 1).toNatClampNeg), .int (xs (x3 + Int32.ofInt 2).toNatClampNeg)] ⟨hI.1, hI.2.1, ⟨rv_okR' rfl rfl, rv_full_ok _, rv_full_ok _, trivial⟩, (fun f hf => by
      obtain rfl := List.mem_singleton.mp hf
      exact lw_hr hI hn (by decide))⟩) wl_L_66 wm_X8_tried wy_X8_tried (by decide) ⟨rfl, rfl⟩ (rest := []) rfl rfl hs (by simp [Value.category]) (fun r V2 hp => ?_)
  obtain ⟨y2, rfl, za, zb, -, zc⟩ := hp.2.2.1
  replace hI := lw_mh hI hp (by decide +kernel) (hi := 500000000) (d := 0) (List.mem_of_getElem? (i := 0) rfl) (by decide)
  refine lz_pop X d_law_614 rfl ?_
  refine lz_goto X 1153 d_law_615 (by decide) ?_
  exact next _ hI
theorem lw_c12 {p : Program} {l : Launch} {e : Env} {s : State} {m : MethodId} {args : Array Value} {below : List Frame} {meth : Method} {c : Code} {Q : State → Prop} {D : va_G} {ad : Nat → Nat} {cy : Nat → ClassId} {Z : State → Heap → Prop} (hAd : fm_Ad fm_tm ad) (hZ : fm_Zk (fm_A fm_tm ad) Z) (X : fm_X p s m args c code R_law D fm_cl fm_tm ad cy (lw_Aq s) fm_Ts 4) (Y : fm_Y s fm_nt Z fm_tm ad (lw_Aq s)) {b L n : Nat} {xs : Nat → Int32} (hX : va_X b L xs s s.heap) (hbl : b < s.heap.size) (hL : L ≤ 3072) {x3 : Int32} (hx3 : 0 ≤ x3.toInt ∧ x3.toInt + 6 ≤ L) {V : fm_V} (hI : lw_I n V) (hn : n < 512) {ls : Array Slot} (hl0 : ls[0]? = some (.val (.ref b))) (hl1 : ls[1]? = some (.val (.ref (ad 0)))) (hl2 : ls[2]? = some (.val (.ref (ad 80)))) (hl3 : ls[3]? = some (.val (.int x3))) (hs : ls.size = 4) (next : ∀ V1, lw_I (n + 1) V1 → lz_W p l e s m args below meth c Q D ad cy V1 1153 ls []) : lz_W p l e s m args below meth c Q D ad cy V 618 ls [] := by
  refine lz_aload_n X d_law_618 rfl hl1 ?_
  refine lz_arg X hX hbl hL hx3 hl0 hl3 (by decide) d_law_619 d_law_620 d_law_621 d_law_622 d_law_623 ?_
  refine lz_arg X hX hbl hL hx3 hl0 hl3 (by decide) d_law_624 d_law_625 d_law_626 d_law_627 d_law_628 ?_
  refine lz_arg X hX hbl hL hx3 hl0 hl3 (by decide) d_law_629 d_law_630 d_law_631 d_law_632 d_law_633 ?_
  refine lz_arg X hX hbl hL hx3 hl0 hl3 (by decide) d_law_634 d_law_635 d_law_636 d_law_637 d_law_638 ?_
  refine lz_arg X hX hbl hL hx3 hl0 hl3 (by decide) d_law_639 d_law_640 d_law_641 d_law_642 d_law_643 ?_
  refine lz_call X Y d_law_644 (i := 0) (m_X7_sieved_0 hAd hZ fm_G_gd V [.ref (ad 0), .int (xs (x3 + Int32.ofInt 1).toNatClampNeg), .int (xs (x3 + Int32.ofInt 2).toNatClampNeg), .int (xs (x3 + Int32.ofInt 3).toNatClampNeg), .int (xs (x3 + Int32.ofInt 4).toNatClampNeg), .int (xs (x3 + Int32.ofInt 5).toNatClampNeg)] ⟨hI.1, hI.2.1, ⟨rv_okR' rfl rfl, rv_full_ok _, rv_full_ok _, rv_full_ok _, rv_full_ok _, rv_full_ok _, trivial⟩, (fun f hf => absurd hf List.not_mem_nil)⟩) wl_L_67 wm_X7_sieved wy_X7_sieved (by decide) ⟨rfl, rfl⟩ (rest := []) rfl rfl hs (by simp [Value.category]) (fun r V1 hp => ?_)
  obtain ⟨y1, rfl, ya, yb, -, yc⟩ := hp.2.2.1
  replace hI := lw_x hI hp (by decide +kernel)
  clear hp yc
  refine lz_pop X d_law_647 rfl ?_
  refine lz_aload_n X d_law_648 rfl hl2 ?_
  refine lz_arg X hX hbl hL hx3 hl0 hl3 (by decide) d_law_649 d_law_650 d_law_651 d_law_652 d_law_653 ?_
  refine lz_arg X hX hbl hL hx3 hl0 hl3 (by decide) d_law_654 d_law_655 d_law_656 d_law_657 d_law_658 ?_
  refine lz_arg X hX hbl hL hx3 hl0 hl3 (by decide) d_law_659 d_law_660 d_law_661 d_law_662 d_law_663 ?_
  refine lz_arg X hX hbl hL hx3 hl0 hl3 (by decide) d_law_664 d_law_665 d_law_666 d_law_667 d_law_668 ?_
  refine lz_arg X hX hbl hL hx3 hl0 hl3 (by decide) d_law_669 d_law_670 d_law_671 d_law_672 d_law_673 ?_
  refine lz_call X Y d_law_674 (i := 80) (m_X8_sieved_0 hAd hZ V1 [.ref (ad 80), .int (xs (x3 + Int32.ofInt 1).toNatClampNeg), .int (xs (x3 + Int32.ofInt 2).toNatClampNeg), .int (xs (x3 + Int32.ofInt 3).toNatClampNeg), .int (xs (x3 + Int32.ofInt 4).toNatClampNeg), .int (xs (x3 + Int32.ofInt 5).toNatClampNeg)] ⟨hI.1, hI.2.1, ⟨rv_okR' rfl rfl, rv_full_ok _, rv_full_ok _, rv_full_ok _, rv_full_ok _, rv_full_ok _, trivial⟩, (fun f hf => by
      obtain rfl := List.mem_singleton.mp hf
      exact lw_hr hI hn (by decide))⟩) wl_L_70 wm_X8_sieved wy_X8_sieved (by decide) ⟨rfl, rfl⟩ (rest := []) rfl rfl hs (by simp [Value.category]) (fun r V2 hp => ?_)
  obtain ⟨y2, rfl, za, zb, -, zc⟩ := hp.2.2.1
  replace hI := lw_mh hI hp (by decide +kernel) (hi := 500000000) (d := 0) (List.mem_of_getElem? (i := 0) rfl) (by decide)
  refine lz_pop X d_law_677 rfl ?_
  refine lz_goto X 1153 d_law_678 (by decide) ?_
  exact next _ hI
theorem lw_c13 {p : Program} {l : Launch} {e : Env} {s : State} {m : MethodId} {args : Array Value} {below : List Frame} {meth : Method} {c : Code} {Q : State → Prop} {D : va_G} {ad : Nat → Nat} {cy : Nat → ClassId} {Z : State → Heap → Prop} (hAd : fm_Ad fm_tm ad) (hZ : fm_Zk (fm_A fm_tm ad) Z) (X : fm_X p s m args c code R_law D fm_cl fm_tm ad cy (lw_Aq s) fm_Ts 4) (Y : fm_Y s fm_nt Z fm_tm ad (lw_Aq s)) {b L n : Nat} {xs : Nat → Int32} (hX : va_X b L xs s s.heap) (hbl : b < s.heap.size) (hL : L ≤ 3072) {x3 : Int32} (hx3 : 0 ≤ x3.toInt ∧ x3.toInt + 6 ≤ L) {V : fm_V} (hI : lw_I n V) (hn : n < 512) {ls : Array Slot} (hl0 : ls[0]? = some (.val (.ref b))) (hl1 : ls[1]? = some (.val (.ref (ad 0)))) (hl2 : ls[2]? = some (.val (.ref (ad 80)))) (hl3 : ls[3]? = some (.val (.int x3))) (hs : ls.size = 4) (next : ∀ V1, lw_I (n + 1) V1 → lz_W p l e s m args below meth c Q D ad cy V1 1153 ls []) : lz_W p l e s m args below meth c Q D ad cy V 681 ls [] := by
  refine lz_aload_n X d_law_681 rfl hl1 ?_
  refine lz_arg X hX hbl hL hx3 hl0 hl3 (by decide) d_law_682 d_law_683 d_law_684 d_law_685 d_law_686 ?_
  refine lz_arg X hX hbl hL hx3 hl0 hl3 (by decide) d_law_687 d_law_688 d_law_689 d_law_690 d_law_691 ?_
  refine lz_arg X hX hbl hL hx3 hl0 hl3 (by decide) d_law_692 d_law_693 d_law_694 d_law_695 d_law_696 ?_
  refine lz_call X Y d_law_697 (i := 0) (m_X7_bowls_0 hAd hZ fm_G_gd V [.ref (ad 0), .int (xs (x3 + Int32.ofInt 1).toNatClampNeg), .int (xs (x3 + Int32.ofInt 2).toNatClampNeg), .int (xs (x3 + Int32.ofInt 3).toNatClampNeg)] ⟨hI.1, hI.2.1, ⟨rv_okR' rfl rfl, rv_full_ok _, rv_full_ok _, rv_full_ok _, trivial⟩, (fun f hf => absurd hf List.not_mem_nil)⟩) wl_L_71 wm_X7_bowls wy_X7_bowls (by decide) ⟨rfl, rfl⟩ (rest := []) rfl rfl hs (by simp [Value.category]) (fun r V1 hp => ?_)
  obtain ⟨y1, rfl, ya, yb, -, yc⟩ := hp.2.2.1
  replace hI := lw_x hI hp (by decide +kernel)
  clear hp yc
  refine lz_pop X d_law_700 rfl ?_
  refine lz_aload_n X d_law_701 rfl hl2 ?_
  refine lz_arg X hX hbl hL hx3 hl0 hl3 (by decide) d_law_702 d_law_703 d_law_704 d_law_705 d_law_706 ?_
  refine lz_arg X hX hbl hL hx3 hl0 hl3 (by decide) d_law_707 d_law_708 d_law_709 d_law_710 d_law_711 ?_
  refine lz_arg X hX hbl hL hx3 hl0 hl3 (by decide) d_law_712 d_law_713 d_law_714 d_law_715 d_law_716 ?_
  refine lz_call X Y d_law_717 (i := 80) (g_bowls hAd hZ (V := V1) (x1 := (xs (x3 + Int32.ofInt 1).toNatClampNeg)) (x2 := (xs (x3 + Int32.ofInt 2).toNatClampNeg)) (x3 := (xs (x3 + Int32.ofInt 3).toNatClampNeg)) hI.1 hI.2.1 (lw_hr hI hn (by decide))) wl_L_75 wm_X8_bowls wy_X8_bowls (by decide) ⟨rfl, rfl⟩ (rest := []) rfl rfl hs (by simp [Value.category]) (fun r V2 hp => ?_)
  obtain ⟨⟨y2, rfl⟩, hF, hh⟩ := hp
  replace hI : lw_I (n + 1) V2 := lw_mk hI hF.1 hF.2 (by decide +kernel) hh (by rw [hF.2 125 5 (by decide +kernel)])
  refine lz_pop X d_law_720 rfl ?_
  refine lz_goto X 1153 d_law_721 (by decide) ?_
  exact next _ hI
