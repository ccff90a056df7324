theorem nk1 (k : Nat) : nI k + (1 : Int32) = nI (k + 1) := nI_add k 1
theorem nk2 (k : Nat) : nI k + (2 : Int32) = nI (k + 2) := nI_add k 2
theorem nk3 (k : Nat) : nI k + (3 : Int32) = nI (k + 3) := nI_add k 3
theorem nk4 (k : Nat) : nI k + (4 : Int32) = nI (k + 4) := nI_add k 4
theorem nk5 (k : Nat) : nI k + (5 : Int32) = nI (k + 5) := nI_add k 5
theorem ml_L_13 : Cond.methodLink R_law 13 yX11_row ∈ GT := gt_mem (i := 444) (by decide +kernel) (by decide +kernel)
theorem imL_X11_row : Cond.instanceMethod yX11_row ∈ GT := gt_mem (i := 445) (by decide +kernel) (by decide +kernel)
theorem seL_X11_row : Cond.selects yX11_row.cls yX11_row yX11_row ∈ GT := gt_mem (i := 446) (by decide +kernel) (by decide +kernel)
theorem miL_X11_row : Mi yX11_row cX11_row 4 (some .long) 3 := ⟨gt_mem (i := 447) (by decide +kernel) (by decide +kernel), gt_mem (i := 85) (by decide +kernel) (by decide +kernel), by decide +kernel, by decide +kernel, by decide +kernel, by decide +kernel⟩
theorem ml_L_17 : Cond.methodLink R_law 17 yX12_row ∈ GT := gt_mem (i := 1265) (by decide +kernel) (by decide +kernel)
theorem imL_X12_row : Cond.instanceMethod yX12_row ∈ GT := gt_mem (i := 1266) (by decide +kernel) (by decide +kernel)
theorem seL_X12_row : Cond.selects yX12_row.cls yX12_row yX12_row ∈ GT := gt_mem (i := 1267) (by decide +kernel) (by decide +kernel)
theorem miL_X12_row : Mi yX12_row cX12_row 5 (some .long) 3 := ⟨gt_mem (i := 1268) (by decide +kernel) (by decide +kernel), gt_mem (i := 97) (by decide +kernel) (by decide +kernel), by decide +kernel, by decide +kernel, by decide +kernel, by decide +kernel⟩
set_option maxHeartbeats 4000000 in
set_option maxRecDepth 100000 in
theorem law_c0 {z : Zx} {x : Lx} {sb : Nat} {a b : Nat → Nat} {mc mm mc2 mm2 : Mem} {L k : Nat} {xs : Nat → Int32} {r : Int64} (X : OK2 z x L xs) (hsb : x.2.2.2.2.2.2.2 = sb) (hk : k + 6 ≤ L) (hC : fX11_row 0 (xs (k + 1)) (xs (k + 2)) (xs (k + 3)) mc = some (r, mc2)) (hM : fX12_row 0 (xs (k + 1)) (xs (k + 2)) (xs (k + 3)) mm = some (r, mm2)) (next : G2 z x 108 4296 a b 17 mc2 mm2 1617 [(0, .ref sb), (1, .ref (a 0)), (2, .ref (b 0)), (3, .int (nI k))] []) : G2 z x 108 4296 a b 17 mc mm 204 [(0, .ref sb), (1, .ref (a 0)), (2, .ref (b 0)), (3, .int (nI k))] [] := by
  subst hsb
  refine q_aload_n (pc := 204) X dL_law_204 rfl 1 rfl ?_
  refine q_aload_n (pc := 205) X dL_law_205 rfl 0 rfl ?_
  refine q_iload_n (pc := 206) X dL_law_206 rfl 3 rfl ?_
  refine q_iconst (v := (1 : Int32)) (pc := 207) X dL_law_207 (by decide) ?_
  refine q_iadd (pc := 208) X dL_law_208 ?_
  refine q_sld (pc := 209) X (nk1 k) (by omega) dL_law_209 ?_
  refine q_aload_n (pc := 210) X dL_law_210 rfl 0 rfl ?_
  refine q_iload_n (pc := 211) X dL_law_211 rfl 3 rfl ?_
  refine q_iconst (v := (2 : Int32)) (pc := 212) X dL_law_212 (by decide) ?_
  refine q_iadd (pc := 213) X dL_law_213 ?_
  refine q_sld (pc := 214) X (nk2 k) (by omega) dL_law_214 ?_
  refine q_aload_n (pc := 215) X dL_law_215 rfl 0 rfl ?_
  refine q_iload_n (pc := 216) X dL_law_216 rfl 3 rfl ?_
  refine q_iconst (v := (3 : Int32)) (pc := 217) X dL_law_217 (by decide) ?_
  refine q_iadd (pc := 218) X dL_law_218 ?_
  refine q_sld (pc := 219) X (nk3 k) (by omega) dL_law_219 ?_
  refine q_callCL (pc := 220) (As := [.int (xs (k + 1)), .int (xs (k + 2)), .int (xs (k + 3))]) (rest := []) X miL_X11_row imL_X11_row seL_X11_row (by decide) rfl clX11 ml_L_13 (cX11_row_ct z a 0 (xs (k + 1)) (xs (k + 2)) (xs (k + 3)) mc mc2 r hC) rfl rfl (Nat.le_of_ble_eq_true rfl) ⟨rfl, rfl, by decide, by decide, by decide, by decide⟩ dL_law_220 ?_
  refine q_aload_n (pc := 223) X dL_law_223 rfl 2 rfl ?_
  refine q_aload_n (pc := 224) X dL_law_224 rfl 0 rfl ?_
  refine q_iload_n (pc := 225) X dL_law_225 rfl 3 rfl ?_
  refine q_iconst (v := (1 : Int32)) (pc := 226) X dL_law_226 (by decide) ?_
  refine q_iadd (pc := 227) X dL_law_227 ?_
  refine q_sld (pc := 228) X (nk1 k) (by omega) dL_law_228 ?_
  refine q_aload_n (pc := 229) X dL_law_229 rfl 0 rfl ?_
  refine q_iload_n (pc := 230) X dL_law_230 rfl 3 rfl ?_
  refine q_iconst (v := (2 : Int32)) (pc := 231) X dL_law_231 (by decide) ?_
  refine q_iadd (pc := 232) X dL_law_232 ?_
  refine q_sld (pc := 233) X (nk2 k) (by omega) dL_law_233 ?_
  refine q_aload_n (pc := 234) X dL_law_234 rfl 0 rfl ?_
  refine q_iload_n (pc := 235) X dL_law_235 rfl 3 rfl ?_
  refine q_iconst (v := (3 : Int32)) (pc := 236) X dL_law_236 (by decide) ?_
  refine q_iadd (pc := 237) X dL_law_237 ?_
  refine q_sld (pc := 238) X (nk3 k) (by omega) dL_law_238 ?_
  refine q_callML (pc := 239) (As := [.int (xs (k + 1)), .int (xs (k + 2)), .int (xs (k + 3))]) (rest := [.long r]) X miL_X12_row imL_X12_row seL_X12_row (by decide) rfl clX12 ml_L_17 (cX12_row_ct z b 0 (xs (k + 1)) (xs (k + 2)) (xs (k + 3)) mm mm2 r hM) rfl rfl (Nat.le_of_ble_eq_true rfl) ⟨rfl, rfl, by decide, by decide, by decide, by decide⟩ dL_law_239 ?_
  exact q_lcmp_eq (pc := 242) (tgt := 1617) X dL_law_242 dL_law_243 (by decide) rfl next
theorem ml_L_18 : Cond.methodLink R_law 18 yX11_set ∈ GT := gt_mem (i := 465) (by decide +kernel) (by decide +kernel)
theorem imL_X11_set : Cond.instanceMethod yX11_set ∈ GT := gt_mem (i := 466) (by decide +kernel) (by decide +kernel)
theorem seL_X11_set : Cond.selects yX11_set.cls yX11_set yX11_set ∈ GT := gt_mem (i := 467) (by decide +kernel) (by decide +kernel)
theorem miL_X11_set : Mi yX11_set cX11_set 5 (some .long) 3 := ⟨gt_mem (i := 468) (by decide +kernel) (by decide +kernel), gt_mem (i := 85) (by decide +kernel) (by decide +kernel), by decide +kernel, by decide +kernel, by decide +kernel, by decide +kernel⟩
theorem ml_L_21 : Cond.methodLink R_law 21 yX12_set ∈ GT := gt_mem (i := 1283) (by decide +kernel) (by decide +kernel)
theorem imL_X12_set : Cond.instanceMethod yX12_set ∈ GT := gt_mem (i := 1284) (by decide +kernel) (by decide +kernel)
theorem seL_X12_set : Cond.selects yX12_set.cls yX12_set yX12_set ∈ GT := gt_mem (i := 1285) (by decide +kernel) (by decide +kernel)
theorem miL_X12_set : Mi yX12_set cX12_set 4 (some .long) 3 := ⟨gt_mem (i := 1286) (by decide +kernel) (by decide +kernel), gt_mem (i := 97) (by decide +kernel) (by decide +kernel), by decide +kernel, by decide +kernel, by decide +kernel, by decide +kernel⟩
set_option maxHeartbeats 4000000 in
set_option maxRecDepth 100000 in
theorem law_c1 {z : Zx} {x : Lx} {sb : Nat} {a b : Nat → Nat} {mc mm mc2 mm2 : Mem} {L k : Nat} {xs : Nat → Int32} {r : Int64} (X : OK2 z x L xs) (hsb : x.2.2.2.2.2.2.2 = sb) (hk : k + 6 ≤ L) (hC : fX11_set 0 (xs (k + 1)) (xs (k + 2)) (xs (k + 3)) mc = some (r, mc2)) (hM : fX12_set 0 (xs (k + 1)) (xs (k + 2)) (xs (k + 3)) mm = some (r, mm2)) (next : G2 z x 108 4296 a b 17 mc2 mm2 1617 [(0, .ref sb), (1, .ref (a 0)), (2, .ref (b 0)), (3, .int (nI k))] []) : G2 z x 108 4296 a b 17 mc mm 248 [(0, .ref sb), (1, .ref (a 0)), (2, .ref (b 0)), (3, .int (nI k))] [] := by
  subst hsb
  refine q_aload_n (pc := 248) X dL_law_248 rfl 1 rfl ?_
  refine q_aload_n (pc := 249) X dL_law_249 rfl 0 rfl ?_
  refine q_iload_n (pc := 250) X dL_law_250 rfl 3 rfl ?_
  refine q_iconst (v := (1 : Int32)) (pc := 251) X dL_law_251 (by decide) ?_
  refine q_iadd (pc := 252) X dL_law_252 ?_
  refine q_sld (pc := 253) X (nk1 k) (by omega) dL_law_253 ?_
  refine q_aload_n (pc := 254) X dL_law_254 rfl 0 rfl ?_
  refine q_iload_n (pc := 255) X dL_law_255 rfl 3 rfl ?_
  refine q_iconst (v := (2 : Int32)) (pc := 256) X dL_law_256 (by decide) ?_
  refine q_iadd (pc := 257) X dL_law_257 ?_
  refine q_sld (pc := 258) X (nk2 k) (by omega) dL_law_258 ?_
  refine q_aload_n (pc := 259) X dL_law_259 rfl 0 rfl ?_
  refine q_iload_n (pc := 260) X dL_law_260 rfl 3 rfl ?_
  refine q_iconst (v := (3 : Int32)) (pc := 261) X dL_law_261 (by decide) ?_
  refine q_iadd (pc := 262) X dL_law_262 ?_
  refine q_sld (pc := 263) X (nk3 k) (by omega) dL_law_263 ?_
  refine q_callCL (pc := 264) (As := [.int (xs (k + 1)), .int (xs (k + 2)), .int (xs (k + 3))]) (rest := []) X miL_X11_set imL_X11_set seL_X11_set (by decide) rfl clX11 ml_L_18 (cX11_set_ct z a 0 (xs (k + 1)) (xs (k + 2)) (xs (k + 3)) mc mc2 r hC) rfl rfl (Nat.le_of_ble_eq_true rfl) ⟨rfl, rfl, by decide, by decide, by decide, by decide⟩ dL_law_264 ?_
  refine q_aload_n (pc := 267) X dL_law_267 rfl 2 rfl ?_
  refine q_aload_n (pc := 268) X dL_law_268 rfl 0 rfl ?_
  refine q_iload_n (pc := 269) X dL_law_269 rfl 3 rfl ?_
  refine q_iconst (v := (1 : Int32)) (pc := 270) X dL_law_270 (by decide) ?_
  refine q_iadd (pc := 271) X dL_law_271 ?_
  refine q_sld (pc := 272) X (nk1 k) (by omega) dL_law_272 ?_
  refine q_aload_n (pc := 273) X dL_law_273 rfl 0 rfl ?_
  refine q_iload_n (pc := 274) X dL_law_274 rfl 3 rfl ?_
  refine q_iconst (v := (2 : Int32)) (pc := 275) X dL_law_275 (by decide) ?_
  refine q_iadd (pc := 276) X dL_law_276 ?_
  refine q_sld (pc := 277) X (nk2 k) (by omega) dL_law_277 ?_
  refine q_aload_n (pc := 278) X dL_law_278 rfl 0 rfl ?_
  refine q_iload_n (pc := 279) X dL_law_279 rfl 3 rfl ?_
  refine q_iconst (v := (3 : Int32)) (pc := 280) X dL_law_280 (by decide) ?_
  refine q_iadd (pc := 281) X dL_law_281 ?_
  refine q_sld (pc := 282) X (nk3 k) (by omega) dL_law_282 ?_
  refine q_callML (pc := 283) (As := [.int (xs (k + 1)), .int (xs (k + 2)), .int (xs (k + 3))]) (rest := [.long r]) X miL_X12_set imL_X12_set seL_X12_set (by decide) rfl clX12 ml_L_21 (cX12_set_ct z b 0 (xs (k + 1)) (xs (k + 2)) (xs (k + 3)) mm mm2 r hM) rfl rfl (Nat.le_of_ble_eq_true rfl) ⟨rfl, rfl, by decide, by decide, by decide, by decide⟩ dL_law_283 ?_
  exact q_lcmp_eq (pc := 286) (tgt := 1617) X dL_law_286 dL_law_287 (by decide) rfl next
theorem ml_L_22 : Cond.methodLink R_law 22 yX11_copy ∈ GT := gt_mem (i := 481) (by decide +kernel) (by decide +kernel)
theorem imL_X11_copy : Cond.instanceMethod yX11_copy ∈ GT := gt_mem (i := 482) (by decide +kernel) (by decide +kernel)
theorem seL_X11_copy : Cond.selects yX11_copy.cls yX11_copy yX11_copy ∈ GT := gt_mem (i := 483) (by decide +kernel) (by decide +kernel)
theorem miL_X11_copy : Mi yX11_copy cX11_copy 8 (some .long) 5 := ⟨gt_mem (i := 484) (by decide +kernel) (by decide +kernel), gt_mem (i := 85) (by decide +kernel) (by decide +kernel), by decide +kernel, by decide +kernel, by decide +kernel, by decide +kernel⟩
theorem ml_L_26 : Cond.methodLink R_law 26 yX12_copy ∈ GT := gt_mem (i := 1287) (by decide +kernel) (by decide +kernel)
theorem imL_X12_copy : Cond.instanceMethod yX12_copy ∈ GT := gt_mem (i := 1288) (by decide +kernel) (by decide +kernel)
theorem seL_X12_copy : Cond.selects yX12_copy.cls yX12_copy yX12_copy ∈ GT := gt_mem (i := 1289) (by decide +kernel) (by decide +kernel)
theorem miL_X12_copy : Mi yX12_copy cX12_copy 9 (some .long) 5 := ⟨gt_mem (i := 1290) (by decide +kernel) (by decide +kernel), gt_mem (i := 97) (by decide +kernel) (by decide +kernel), by decide +kernel, by decide +kernel, by decide +kernel, by decide +kernel⟩
set_option maxHeartbeats 4000000 in
set_option maxRecDepth 100000 in
theorem law_c2 {z : Zx} {x : Lx} {sb : Nat} {a b : Nat → Nat} {mc mm mc2 mm2 : Mem} {L k : Nat} {xs : Nat → Int32} {r : Int64} (X : OK2 z x L xs) (hsb : x.2.2.2.2.2.2.2 = sb) (hk : k + 6 ≤ L) (hC : fX11_copy 0 (xs (k + 1)) (xs (k + 2)) (xs (k + 3)) (xs (k + 4)) (xs (k + 5)) mc = some (r, mc2)) (hM : fX12_copy 0 (xs (k + 1)) (xs (k + 2)) (xs (k + 3)) (xs (k + 4)) (xs (k + 5)) mm = some (r, mm2)) (next : G2 z x 108 4296 a b 17 mc2 mm2 1617 [(0, .ref sb), (1, .ref (a 0)), (2, .ref (b 0)), (3, .int (nI k))] []) : G2 z x 108 4296 a b 17 mc mm 292 [(0, .ref sb), (1, .ref (a 0)), (2, .ref (b 0)), (3, .int (nI k))] [] := by
  subst hsb
  refine q_aload_n (pc := 292) X dL_law_292 rfl 1 rfl ?_
  refine q_aload_n (pc := 293) X dL_law_293 rfl 0 rfl ?_
  refine q_iload_n (pc := 294) X dL_law_294 rfl 3 rfl ?_
  refine q_iconst (v := (1 : Int32)) (pc := 295) X dL_law_295 (by decide) ?_
  refine q_iadd (pc := 296) X dL_law_296 ?_
  refine q_sld (pc := 297) X (nk1 k) (by omega) dL_law_297 ?_
  refine q_aload_n (pc := 298) X dL_law_298 rfl 0 rfl ?_
  refine q_iload_n (pc := 299) X dL_law_299 rfl 3 rfl ?_
  refine q_iconst (v := (2 : Int32)) (pc := 300) X dL_law_300 (by decide) ?_
  refine q_iadd (pc := 301) X dL_law_301 ?_
  refine q_sld (pc := 302) X (nk2 k) (by omega) dL_law_302 ?_
  refine q_aload_n (pc := 303) X dL_law_303 rfl 0 rfl ?_
  refine q_iload_n (pc := 304) X dL_law_304 rfl 3 rfl ?_
  refine q_iconst (v := (3 : Int32)) (pc := 305) X dL_law_305 (by decide) ?_
  refine q_iadd (pc := 306) X dL_law_306 ?_
  refine q_sld (pc := 307) X (nk3 k) (by omega) dL_law_307 ?_
  refine q_aload_n (pc := 308) X dL_law_308 rfl 0 rfl ?_
  refine q_iload_n (pc := 309) X dL_law_309 rfl 3 rfl ?_
  refine q_iconst (v := (4 : Int32)) (pc := 310) X dL_law_310 (by decide) ?_
  refine q_iadd (pc := 311) X dL_law_311 ?_
  refine q_sld (pc := 312) X (nk4 k) (by omega) dL_law_312 ?_
  refine q_aload_n (pc := 313) X dL_law_313 rfl 0 rfl ?_
  refine q_iload_n (pc := 314) X dL_law_314 rfl 3 rfl ?_
  refine q_iconst (v := (5 : Int32)) (pc := 315) X dL_law_315 (by decide) ?_
  refine q_iadd (pc := 316) X dL_law_316 ?_
  refine q_sld (pc := 317) X (nk5 k) (by omega) dL_law_317 ?_
  refine q_callCL (pc := 318) (As := [.int (xs (k + 1)), .int (xs (k + 2)), .int (xs (k + 3)), .int (xs (k + 4)), .int (xs (k + 5))]) (rest := []) X miL_X11_copy imL_X11_copy seL_X11_copy (by decide) rfl clX11 ml_L_22 (cX11_copy_ct z a 0 (xs (k + 1)) (xs (k + 2)) (xs (k + 3)) (xs (k + 4)) (xs (k + 5)) mc mc2 r hC) rfl rfl (Nat.le_of_ble_eq_true rfl) ⟨rfl, rfl, by decide, by decide, by decide, by decide⟩ dL_law_318 ?_
  refine q_aload_n (pc := 321) X dL_law_321 rfl 2 rfl ?_
  refine q_aload_n (pc := 322) X dL_law_322 rfl 0 rfl ?_
  refine q_iload_n (pc := 323) X dL_law_323 rfl 3 rfl ?_
  refine q_iconst (v := (1 : Int32)) (pc := 324) X dL_law_324 (by decide) ?_
  refine q_iadd (pc := 325) X dL_law_325 ?_
  refine q_sld (pc := 326) X (nk1 k) (by omega) dL_law_326 ?_
  refine q_aload_n (pc := 327) X dL_law_327 rfl 0 rfl ?_
  refine q_iload_n (pc := 328) X dL_law_328 rfl 3 rfl ?_
  refine q_iconst (v := (2 : Int32)) (pc := 329) X dL_law_329 (by decide) ?_
  refine q_iadd (pc := 330) X dL_law_330 ?_
  refine q_sld (pc := 331) X (nk2 k) (by omega) dL_law_331 ?_
  refine q_aload_n (pc := 332) X dL_law_332 rfl 0 rfl ?_
  refine q_iload_n (pc := 333) X dL_law_333 rfl 3 rfl ?_
  refine q_iconst (v := (3 : Int32)) (pc := 334) X dL_law_334 (by decide) ?_
  refine q_iadd (pc := 335) X dL_law_335 ?_
  refine q_sld (pc := 336) X (nk3 k) (by omega) dL_law_336 ?_
  refine q_aload_n (pc := 337) X dL_law_337 rfl 0 rfl ?_
  refine q_iload_n (pc := 338) X dL_law_338 rfl 3 rfl ?_
  refine q_iconst (v := (4 : Int32)) (pc := 339) X dL_law_339 (by decide) ?_
  refine q_iadd (pc := 340) X dL_law_340 ?_
  refine q_sld (pc := 341) X (nk4 k) (by omega) dL_law_341 ?_
  refine q_aload_n (pc := 342) X dL_law_342 rfl 0 rfl ?_
  refine q_iload_n (pc := 343) X dL_law_343 rfl 3 rfl ?_
  refine q_iconst (v := (5 : Int32)) (pc := 344) X dL_law_344 (by decide) ?_
  refine q_iadd (pc := 345) X dL_law_345 ?_
  refine q_sld (pc := 346) X (nk5 k) (by omega) dL_law_346 ?_
  refine q_callML (pc := 347) (As := [.int (xs (k + 1)), .int (xs (k + 2)), .int (xs (k + 3)), .int (xs (k + 4)), .int (xs (k + 5))]) (rest := [.long r]) X miL_X12_copy imL_X12_copy seL_X12_copy (by decide) rfl clX12 ml_L_26 (cX12_copy_ct z b 0 (xs (k + 1)) (xs (k + 2)) (xs (k + 3)) (xs (k + 4)) (xs (k + 5)) mm mm2 r hM) rfl rfl (Nat.le_of_ble_eq_true rfl) ⟨rfl, rfl, by decide, by decide, by decide, by decide⟩ dL_law_347 ?_
  exact q_lcmp_eq (pc := 350) (tgt := 1617) X dL_law_350 dL_law_351 (by decide) rfl next
theorem ml_L_27 : Cond.methodLink R_law 27 yX11_drop ∈ GT := gt_mem (i := 488) (by decide +kernel) (by decide +kernel)
theorem imL_X11_drop : Cond.instanceMethod yX11_drop ∈ GT := gt_mem (i := 489) (by decide +kernel) (by decide +kernel)
theorem seL_X11_drop : Cond.selects yX11_drop.cls yX11_drop yX11_drop ∈ GT := gt_mem (i := 490) (by decide +kernel) (by decide +kernel)
theorem miL_X11_drop : Mi yX11_drop cX11_drop 4 (some .long) 1 := ⟨gt_mem (i := 491) (by decide +kernel) (by decide +kernel), gt_mem (i := 85) (by decide +kernel) (by decide +kernel), by decide +kernel, by decide +kernel, by decide +kernel, by decide +kernel⟩
theorem ml_L_31 : Cond.methodLink R_law 31 yX12_drop ∈ GT := gt_mem (i := 1291) (by decide +kernel) (by decide +kernel)
theorem imL_X12_drop : Cond.instanceMethod yX12_drop ∈ GT := gt_mem (i := 1292) (by decide +kernel) (by decide +kernel)
theorem seL_X12_drop : Cond.selects yX12_drop.cls yX12_drop yX12_drop ∈ GT := gt_mem (i := 1293) (by decide +kernel) (by decide +kernel)
theorem miL_X12_drop : Mi yX12_drop cX12_drop 2 (some .long) 1 := ⟨gt_mem (i := 1294) (by decide +kernel) (by decide +kernel), gt_mem (i := 97) (by decide +kernel) (by decide +kernel), by decide +kernel, by decide +kernel, by decide +kernel, by decide +kernel⟩
set_option maxHeartbeats 4000000 in
set_option maxRecDepth 100000 in
theorem law_c3 {z : Zx} {x : Lx} {sb : Nat} {a b : Nat → Nat} {mc mm mc2 mm2 : Mem} {L k : Nat} {xs : Nat → Int32} {r : Int64} (X : OK2 z x L xs) (hsb : x.2.2.2.2.2.2.2 = sb) (hk : k + 6 ≤ L) (hC : fX11_drop 0 (xs (k + 1)) mc = some (r, mc2)) (hM : fX12_drop 0 (xs (k + 1)) mm = some (r, mm2)) (next : G2 z x 108 4296 a b 17 mc2 mm2 1617 [(0, .ref sb), (1, .ref (a 0)), (2, .ref (b 0)), (3, .int (nI k))] []) : G2 z x 108 4296 a b 17 mc mm 356 [(0, .ref sb), (1, .ref (a 0)), (2, .ref (b 0)), (3, .int (nI k))] [] := by
  subst hsb
  refine q_aload_n (pc := 356) X dL_law_356 rfl 1 rfl ?_
  refine q_aload_n (pc := 357) X dL_law_357 rfl 0 rfl ?_
  refine q_iload_n (pc := 358) X dL_law_358 rfl 3 rfl ?_
  refine q_iconst (v := (1 : Int32)) (pc := 359) X dL_law_359 (by decide) ?_
  refine q_iadd (pc := 360) X dL_law_360 ?_
  refine q_sld (pc := 361) X (nk1 k) (by omega) dL_law_361 ?_
  refine q_callCL (pc := 362) (As := [.int (xs (k + 1))]) (rest := []) X miL_X11_drop imL_X11_drop seL_X11_drop (by decide) rfl clX11 ml_L_27 (cX11_drop_ct z a 0 (xs (k + 1)) mc mc2 r hC) rfl rfl (Nat.le_of_ble_eq_true rfl) ⟨rfl, rfl, by decide, by decide, by decide, by decide⟩ dL_law_362 ?_
  refine q_aload_n (pc := 365) X dL_law_365 rfl 2 rfl ?_
  refine q_aload_n (pc := 366) X dL_law_366 rfl 0 rfl ?_
  refine q_iload_n (pc := 367) X dL_law_367 rfl 3 rfl ?_
  refine q_iconst (v := (1 : Int32)) (pc := 368) X dL_law_368 (by decide) ?_
  refine q_iadd (pc := 369) X dL_law_369 ?_
  refine q_sld (pc := 370) X (nk1 k) (by omega) dL_law_370 ?_
  refine q_callML (pc := 371) (As := [.int (xs (k + 1))]) (rest := [.long r]) X miL_X12_drop imL_X12_drop seL_X12_drop (by decide) rfl clX12 ml_L_31 (cX12_drop_ct z b 0 (xs (k + 1)) mm mm2 r hM) rfl rfl (Nat.le_of_ble_eq_true rfl) ⟨rfl, rfl, by decide, by decide, by decide, by decide⟩ dL_law_371 ?_
  exact q_lcmp_eq (pc := 374) (tgt := 1617) X dL_law_374 dL_law_375 (by decide) rfl next
theorem kl_L_32 : Jvm.Cond.constantLong R_law 32 (4294967295) ∈ GT := gt_mem (i := 1701) (by decide +kernel) (by decide +kernel)
theorem ml_L_34 : Cond.methodLink R_law 34 yX11_feed ∈ GT := gt_mem (i := 496) (by decide +kernel) (by decide +kernel)
theorem imL_X11_feed : Cond.instanceMethod yX11_feed ∈ GT := gt_mem (i := 497) (by decide +kernel) (by decide +kernel)
theorem seL_X11_feed : Cond.selects yX11_feed.cls yX11_feed yX11_feed ∈ GT := gt_mem (i := 498) (by decide +kernel) (by decide +kernel)
theorem miL_X11_feed : Mi yX11_feed cX11_feed 4 (some .long) 2 := ⟨gt_mem (i := 499) (by decide +kernel) (by decide +kernel), gt_mem (i := 85) (by decide +kernel) (by decide +kernel), by decide +kernel, by decide +kernel, by decide +kernel, by decide +kernel⟩
theorem ml_L_38 : Cond.methodLink R_law 38 yX12_feed ∈ GT := gt_mem (i := 1295) (by decide +kernel) (by decide +kernel)
theorem imL_X12_feed : Cond.instanceMethod yX12_feed ∈ GT := gt_mem (i := 1296) (by decide +kernel) (by decide +kernel)
theorem seL_X12_feed : Cond.selects yX12_feed.cls yX12_feed yX12_feed ∈ GT := gt_mem (i := 1297) (by decide +kernel) (by decide +kernel)
theorem miL_X12_feed : Mi yX12_feed cX12_feed 5 (some .long) 2 := ⟨gt_mem (i := 1298) (by decide +kernel) (by decide +kernel), gt_mem (i := 97) (by decide +kernel) (by decide +kernel), by decide +kernel, by decide +kernel, by decide +kernel, by decide +kernel⟩
set_option maxHeartbeats 4000000 in
set_option maxRecDepth 100000 in
theorem law_c4 {z : Zx} {x : Lx} {sb : Nat} {a b : Nat → Nat} {mc mm mc2 mm2 : Mem} {L k : Nat} {xs : Nat → Int32} {r : Int64} (X : OK2 z x L xs) (hsb : x.2.2.2.2.2.2.2 = sb) (hk : k + 6 ≤ L) (hC : fX11_feed 0 (((xs (k + 1)).toInt64 <<< ((32 : Int32).toInt64 &&& 63)) ||| ((xs (k + 2)).toInt64 &&& (4294967295 : Int64))) (xs (k + 3)) mc = some (r, mc2)) (hM : fX12_feed 0 (((xs (k + 1)).toInt64 <<< ((32 : Int32).toInt64 &&& 63)) ||| ((xs (k + 2)).toInt64 &&& (4294967295 : Int64))) (xs (k + 3)) mm = some (r, mm2)) (next : G2 z x 108 4296 a b 17 mc2 mm2 1617 [(0, .ref sb), (1, .ref (a 0)), (2, .ref (b 0)), (3, .int (nI k))] []) : G2 z x 108 4296 a b 17 mc mm 380 [(0, .ref sb), (1, .ref (a 0)), (2, .ref (b 0)), (3, .int (nI k))] [] := by
  subst hsb
  refine q_aload_n (pc := 380) X dL_law_380 rfl 1 rfl ?_
  refine q_aload_n (pc := 381) X dL_law_381 rfl 0 rfl ?_
  refine q_iload_n (pc := 382) X dL_law_382 rfl 3 rfl ?_
  refine q_iconst (v := (1 : Int32)) (pc := 383) X dL_law_383 (by decide) ?_
  refine q_iadd (pc := 384) X dL_law_384 ?_
  refine q_sld (pc := 385) X (nk1 k) (by omega) dL_law_385 ?_
  refine q_i2l (pc := 386) X dL_law_386 ?_
  refine q_bipush (v := (32 : Int32)) (pc := 387) X dL_law_387 (by decide) ?_
  refine q_lshl (pc := 389) X dL_law_389 ?_
  refine q_aload_n (pc := 390) X dL_law_390 rfl 0 rfl ?_
  refine q_iload_n (pc := 391) X dL_law_391 rfl 3 rfl ?_
  refine q_iconst (v := (2 : Int32)) (pc := 392) X dL_law_392 (by decide) ?_
  refine q_iadd (pc := 393) X dL_law_393 ?_
  refine q_sld (pc := 394) X (nk2 k) (by omega) dL_law_394 ?_
  refine q_i2l (pc := 395) X dL_law_395 ?_
  refine q_ldc2 (pc := 396) X dL_law_396 kl_L_32 ?_
  refine q_land (pc := 399) X dL_law_399 ?_
  refine q_lor (pc := 400) X dL_law_400 ?_
  refine q_aload_n (pc := 401) X dL_law_401 rfl 0 rfl ?_
  refine q_iload_n (pc := 402) X dL_law_402 rfl 3 rfl ?_
  refine q_iconst (v := (3 : Int32)) (pc := 403) X dL_law_403 (by decide) ?_
  refine q_iadd (pc := 404) X dL_law_404 ?_
  refine q_sld (pc := 405) X (nk3 k) (by omega) dL_law_405 ?_
  refine q_callCL (pc := 406) (As := [.long (((xs (k + 1)).toInt64 <<< ((32 : Int32).toInt64 &&& 63)) ||| ((xs (k + 2)).toInt64 &&& (4294967295 : Int64))), .int (xs (k + 3))]) (rest := []) X miL_X11_feed imL_X11_feed seL_X11_feed (by decide) rfl clX11 ml_L_34 (cX11_feed_ct z a 0 (((xs (k + 1)).toInt64 <<< ((32 : Int32).toInt64 &&& 63)) ||| ((xs (k + 2)).toInt64 &&& (4294967295 : Int64))) (xs (k + 3)) mc mc2 r hC) rfl rfl (Nat.le_of_ble_eq_true rfl) ⟨rfl, rfl, by decide, by decide, by decide, by decide⟩ dL_law_406 ?_
  refine q_aload_n (pc := 409) X dL_law_409 rfl 2 rfl ?_
  refine q_aload_n (pc := 410) X dL_law_410 rfl 0 rfl ?_
  refine q_iload_n (pc := 411) X dL_law_411 rfl 3 rfl ?_
  refine q_iconst (v := (1 : Int32)) (pc := 412) X dL_law_412 (by decide) ?_
  refine q_iadd (pc := 413) X dL_law_413 ?_
  refine q_sld (pc := 414) X (nk1 k) (by omega) dL_law_414 ?_
  refine q_i2l (pc := 415) X dL_law_415 ?_
  refine q_bipush (v := (32 : Int32)) (pc := 416) X dL_law_416 (by decide) ?_
  refine q_lshl (pc := 418) X dL_law_418 ?_
  refine q_aload_n (pc := 419) X dL_law_419 rfl 0 rfl ?_
  refine q_iload_n (pc := 420) X dL_law_420 rfl 3 rfl ?_
  refine q_iconst (v := (2 : Int32)) (pc := 421) X dL_law_421 (by decide) ?_
  refine q_iadd (pc := 422) X dL_law_422 ?_
  refine q_sld (pc := 423) X (nk2 k) (by omega) dL_law_423 ?_
  refine q_i2l (pc := 424) X dL_law_424 ?_
  refine q_ldc2 (pc := 425) X dL_law_425 kl_L_32 ?_
  refine q_land (pc := 428) X dL_law_428 ?_
  refine q_lor (pc := 429) X dL_law_429 ?_
  refine q_aload_n (pc := 430) X dL_law_430 rfl 0 rfl ?_
  refine q_iload_n (pc := 431) X dL_law_431 rfl 3 rfl ?_
  refine q_iconst (v := (3 : Int32)) (pc := 432) X dL_law_432 (by decide) ?_
  refine q_iadd (pc := 433) X dL_law_433 ?_
  refine q_sld (pc := 434) X (nk3 k) (by omega) dL_law_434 ?_
  refine q_callML (pc := 435) (As := [.long (((xs (k + 1)).toInt64 <<< ((32 : Int32).toInt64 &&& 63)) ||| ((xs (k + 2)).toInt64 &&& (4294967295 : Int64))), .int (xs (k + 3))]) (rest := [.long r]) X miL_X12_feed imL_X12_feed seL_X12_feed (by decide) rfl clX12 ml_L_38 (cX12_feed_ct z b 0 (((xs (k + 1)).toInt64 <<< ((32 : Int32).toInt64 &&& 63)) ||| ((xs (k + 2)).toInt64 &&& (4294967295 : Int64))) (xs (k + 3)) mm mm2 r hM) rfl rfl (Nat.le_of_ble_eq_true rfl) ⟨rfl, rfl, by decide, by decide, by decide, by decide⟩ dL_law_435 ?_
  exact q_lcmp_eq (pc := 438) (tgt := 1617) X dL_law_438 dL_law_439 (by decide) rfl next
theorem ml_L_39 : Cond.methodLink R_law 39 yX11_sea ∈ GT := gt_mem (i := 505) (by decide +kernel) (by decide +kernel)
theorem imL_X11_sea : Cond.instanceMethod yX11_sea ∈ GT := gt_mem (i := 506) (by decide +kernel) (by decide +kernel)
theorem seL_X11_sea : Cond.selects yX11_sea.cls yX11_sea yX11_sea ∈ GT := gt_mem (i := 507) (by decide +kernel) (by decide +kernel)
theorem miL_X11_sea : Mi yX11_sea cX11_sea 2 (some .long) 0 := ⟨gt_mem (i := 508) (by decide +kernel) (by decide +kernel), gt_mem (i := 85) (by decide +kernel) (by decide +kernel), by decide +kernel, by decide +kernel, by decide +kernel, by decide +kernel⟩
theorem ml_L_43 : Cond.methodLink R_law 43 yX12_sea ∈ GT := gt_mem (i := 1302) (by decide +kernel) (by decide +kernel)
theorem imL_X12_sea : Cond.instanceMethod yX12_sea ∈ GT := gt_mem (i := 1303) (by decide +kernel) (by decide +kernel)
theorem seL_X12_sea : Cond.selects yX12_sea.cls yX12_sea yX12_sea ∈ GT := gt_mem (i := 1304) (by decide +kernel) (by decide +kernel)
theorem miL_X12_sea : Mi yX12_sea cX12_sea 2 (some .long) 0 := ⟨gt_mem (i := 1305) (by decide +kernel) (by decide +kernel), gt_mem (i := 97) (by decide +kernel) (by decide +kernel), by decide +kernel, by decide +kernel, by decide +kernel, by decide +kernel⟩
set_option maxHeartbeats 4000000 in
set_option maxRecDepth 100000 in
theorem law_c5 {z : Zx} {x : Lx} {sb : Nat} {a b : Nat → Nat} {mc mm mc2 mm2 : Mem} {L k : Nat} {xs : Nat → Int32} {r : Int64} (X : OK2 z x L xs) (hsb : x.2.2.2.2.2.2.2 = sb) (hk : k + 6 ≤ L) (hC : fX11_sea 0 mc = some (r, mc2)) (hM : fX12_sea 0 mm = some (r, mm2)) (next : G2 z x 108 4296 a b 17 mc2 mm2 1617 [(0, .ref sb), (1, .ref (a 0)), (2, .ref (b 0)), (3, .int (nI k))] []) : G2 z x 108 4296 a b 17 mc mm 444 [(0, .ref sb), (1, .ref (a 0)), (2, .ref (b 0)), (3, .int (nI k))] [] := by
  subst hsb
  refine q_aload_n (pc := 444) X dL_law_444 rfl 1 rfl ?_
  refine q_callCL (pc := 445) (As := []) (rest := []) X miL_X11_sea imL_X11_sea seL_X11_sea (by decide) rfl clX11 ml_L_39 (cX11_sea_ct z a 0 mc mc2 r hC) rfl rfl (Nat.le_of_ble_eq_true rfl) ⟨rfl, rfl, by decide, by decide, by decide, by decide⟩ dL_law_445 ?_
  refine q_aload_n (pc := 448) X dL_law_448 rfl 2 rfl ?_
  refine q_callML (pc := 449) (As := []) (rest := [.long r]) X miL_X12_sea imL_X12_sea seL_X12_sea (by decide) rfl clX12 ml_L_43 (cX12_sea_ct z b 0 mm mm2 r hM) rfl rfl (Nat.le_of_ble_eq_true rfl) ⟨rfl, rfl, by decide, by decide, by decide, by decide⟩ dL_law_449 ?_
  exact q_lcmp_eq (pc := 452) (tgt := 1617) X dL_law_452 dL_law_453 (by decide) rfl next
theorem ml_L_44 : Cond.methodLink R_law 44 yX11_fault ∈ GT := gt_mem (i := 754) (by decide +kernel) (by decide +kernel)
theorem imL_X11_fault : Cond.instanceMethod yX11_fault ∈ GT := gt_mem (i := 755) (by decide +kernel) (by decide +kernel)
theorem seL_X11_fault : Cond.selects yX11_fault.cls yX11_fault yX11_fault ∈ GT := gt_mem (i := 756) (by decide +kernel) (by decide +kernel)
theorem miL_X11_fault : Mi yX11_fault cX11_fault 1 (some .int) 0 := ⟨gt_mem (i := 757) (by decide +kernel) (by decide +kernel), gt_mem (i := 85) (by decide +kernel) (by decide +kernel), by decide +kernel, by decide +kernel, by decide +kernel, by decide +kernel⟩
theorem ml_L_48 : Cond.methodLink R_law 48 yX12_fault ∈ GT := gt_mem (i := 1408) (by decide +kernel) (by decide +kernel)
theorem imL_X12_fault : Cond.instanceMethod yX12_fault ∈ GT := gt_mem (i := 1409) (by decide +kernel) (by decide +kernel)
theorem seL_X12_fault : Cond.selects yX12_fault.cls yX12_fault yX12_fault ∈ GT := gt_mem (i := 1410) (by decide +kernel) (by decide +kernel)
theorem miL_X12_fault : Mi yX12_fault cX12_fault 1 (some .int) 0 := ⟨gt_mem (i := 1411) (by decide +kernel) (by decide +kernel), gt_mem (i := 97) (by decide +kernel) (by decide +kernel), by decide +kernel, by decide +kernel, by decide +kernel, by decide +kernel⟩
set_option maxHeartbeats 4000000 in
set_option maxRecDepth 100000 in
theorem law_c6 {z : Zx} {x : Lx} {sb : Nat} {a b : Nat → Nat} {mc mm mm2 : Mem} {L k : Nat} {xs : Nat → Int32} {r : Int32} (X : OK2 z x L xs) (hsb : x.2.2.2.2.2.2.2 = sb) (hk : k + 6 ≤ L) (hC : fX11_fault 0 mc = some r) (hM : fX12_fault 0 mm = some (r, mm2)) (next : G2 z x 108 4296 a b 17 mc mm2 1617 [(0, .ref sb), (1, .ref (a 0)), (2, .ref (b 0)), (3, .int (nI k))] []) : G2 z x 108 4296 a b 17 mc mm 458 [(0, .ref sb), (1, .ref (a 0)), (2, .ref (b 0)), (3, .int (nI k))] [] := by
  subst hsb
  refine q_aload_n (pc := 458) X dL_law_458 rfl 1 rfl ?_
  refine q_callCI (pc := 459) (As := []) (rest := []) X miL_X11_fault imL_X11_fault seL_X11_fault (by decide) rfl clX11 ml_L_44 (cX11_fault_ct z a 0 mc r hC) rfl rfl (Nat.le_of_ble_eq_true rfl) ⟨rfl, rfl, by decide, by decide, by decide, by decide⟩ dL_law_459 ?_
  refine q_aload_n (pc := 462) X dL_law_462 rfl 2 rfl ?_
  refine q_callMI (pc := 463) (As := []) (rest := [.int r]) X miL_X12_fault imL_X12_fault seL_X12_fault (by decide) rfl clX12 ml_L_48 (cX12_fault_ct z b 0 mm mm2 r hM) rfl rfl (Nat.le_of_ble_eq_true rfl) ⟨rfl, rfl, by decide, by decide, by decide, by decide⟩ dL_law_463 ?_
  exact q_icmp_eq (pc := 466) (tgt := 1617) X dL_law_466 (by decide) (fun _ => next) (fun h => absurd rfl h)
theorem ml_L_49 : Cond.methodLink R_law 49 yX11_put ∈ GT := gt_mem (i := 758) (by decide +kernel) (by decide +kernel)
theorem imL_X11_put : Cond.instanceMethod yX11_put ∈ GT := gt_mem (i := 759) (by decide +kernel) (by decide +kernel)
theorem seL_X11_put : Cond.selects yX11_put.cls yX11_put yX11_put ∈ GT := gt_mem (i := 760) (by decide +kernel) (by decide +kernel)
theorem miL_X11_put : Mi yX11_put cX11_put 5 (some .long) 3 := ⟨gt_mem (i := 761) (by decide +kernel) (by decide +kernel), gt_mem (i := 85) (by decide +kernel) (by decide +kernel), by decide +kernel, by decide +kernel, by decide +kernel, by decide +kernel⟩
theorem ml_L_52 : Cond.methodLink R_law 52 yX12_put ∈ GT := gt_mem (i := 1412) (by decide +kernel) (by decide +kernel)
theorem imL_X12_put : Cond.instanceMethod yX12_put ∈ GT := gt_mem (i := 1413) (by decide +kernel) (by decide +kernel)
theorem seL_X12_put : Cond.selects yX12_put.cls yX12_put yX12_put ∈ GT := gt_mem (i := 1414) (by decide +kernel) (by decide +kernel)
theorem miL_X12_put : Mi yX12_put cX12_put 4 (some .long) 3 := ⟨gt_mem (i := 1415) (by decide +kernel) (by decide +kernel), gt_mem (i := 97) (by decide +kernel) (by decide +kernel), by decide +kernel, by decide +kernel, by decide +kernel, by decide +kernel⟩
set_option maxHeartbeats 4000000 in
set_option maxRecDepth 100000 in
theorem law_c7 {z : Zx} {x : Lx} {sb : Nat} {a b : Nat → Nat} {mc mm mc2 mm2 : Mem} {L k : Nat} {xs : Nat → Int32} {r : Int64} (X : OK2 z x L xs) (hsb : x.2.2.2.2.2.2.2 = sb) (hk : k + 6 ≤ L) (hC : fX11_put 0 (xs (k + 1)) (xs (k + 2)) (xs (k + 3)) mc = some (r, mc2)) (hM : fX12_put 0 (xs (k + 1)) (xs (k + 2)) (xs (k + 3)) mm = some (r, mm2)) (next : G2 z x 108 4296 a b 17 mc2 mm2 1617 [(0, .ref sb), (1, .ref (a 0)), (2, .ref (b 0)), (3, .int (nI k))] []) : G2 z x 108 4296 a b 17 mc mm 471 [(0, .ref sb), (1, .ref (a 0)), (2, .ref (b 0)), (3, .int (nI k))] [] := by
  subst hsb
  refine q_aload_n (pc := 471) X dL_law_471 rfl 1 rfl ?_
  refine q_aload_n (pc := 472) X dL_law_472 rfl 0 rfl ?_
  refine q_iload_n (pc := 473) X dL_law_473 rfl 3 rfl ?_
  refine q_iconst (v := (1 : Int32)) (pc := 474) X dL_law_474 (by decide) ?_
  refine q_iadd (pc := 475) X dL_law_475 ?_
  refine q_sld (pc := 476) X (nk1 k) (by omega) dL_law_476 ?_
  refine q_aload_n (pc := 477) X dL_law_477 rfl 0 rfl ?_
  refine q_iload_n (pc := 478) X dL_law_478 rfl 3 rfl ?_
  refine q_iconst (v := (2 : Int32)) (pc := 479) X dL_law_479 (by decide) ?_
  refine q_iadd (pc := 480) X dL_law_480 ?_
  refine q_sld (pc := 481) X (nk2 k) (by omega) dL_law_481 ?_
  refine q_aload_n (pc := 482) X dL_law_482 rfl 0 rfl ?_
  refine q_iload_n (pc := 483) X dL_law_483 rfl 3 rfl ?_
  refine q_iconst (v := (3 : Int32)) (pc := 484) X dL_law_484 (by decide) ?_
  refine q_iadd (pc := 485) X dL_law_485 ?_
  refine q_sld (pc := 486) X (nk3 k) (by omega) dL_law_486 ?_
  refine q_callCL (pc := 487) (As := [.int (xs (k + 1)), .int (xs (k + 2)), .int (xs (k + 3))]) (rest := []) X miL_X11_put imL_X11_put seL_X11_put (by decide) rfl clX11 ml_L_49 (cX11_put_ct z a 0 (xs (k + 1)) (xs (k + 2)) (xs (k + 3)) mc mc2 r hC) rfl rfl (Nat.le_of_ble_eq_true rfl) ⟨rfl, rfl, by decide, by decide, by decide, by decide⟩ dL_law_487 ?_
  refine q_aload_n (pc := 490) X dL_law_490 rfl 2 rfl ?_
  refine q_aload_n (pc := 491) X dL_law_491 rfl 0 rfl ?_
  refine q_iload_n (pc := 492) X dL_law_492 rfl 3 rfl ?_
  refine q_iconst (v := (1 : Int32)) (pc := 493) X dL_law_493 (by decide) ?_
  refine q_iadd (pc := 494) X dL_law_494 ?_
  refine q_sld (pc := 495) X (nk1 k) (by omega) dL_law_495 ?_
  refine q_aload_n (pc := 496) X dL_law_496 rfl 0 rfl ?_
  refine q_iload_n (pc := 497) X dL_law_497 rfl 3 rfl ?_
  refine q_iconst (v := (2 : Int32)) (pc := 498) X dL_law_498 (by decide) ?_
  refine q_iadd (pc := 499) X dL_law_499 ?_
  refine q_sld (pc := 500) X (nk2 k) (by omega) dL_law_500 ?_
  refine q_aload_n (pc := 501) X dL_law_501 rfl 0 rfl ?_
  refine q_iload_n (pc := 502) X dL_law_502 rfl 3 rfl ?_
  refine q_iconst (v := (3 : Int32)) (pc := 503) X dL_law_503 (by decide) ?_
  refine q_iadd (pc := 504) X dL_law_504 ?_
  refine q_sld (pc := 505) X (nk3 k) (by omega) dL_law_505 ?_
  refine q_callML (pc := 506) (As := [.int (xs (k + 1)), .int (xs (k + 2)), .int (xs (k + 3))]) (rest := [.long r]) X miL_X12_put imL_X12_put seL_X12_put (by decide) rfl clX12 ml_L_52 (cX12_put_ct z b 0 (xs (k + 1)) (xs (k + 2)) (xs (k + 3)) mm mm2 r hM) rfl rfl (Nat.le_of_ble_eq_true rfl) ⟨rfl, rfl, by decide, by decide, by decide, by decide⟩ dL_law_506 ?_
  exact q_lcmp_eq (pc := 509) (tgt := 1617) X dL_law_509 dL_law_510 (by decide) rfl next
theorem ml_L_53 : Cond.methodLink R_law 53 yX11_head ∈ GT := gt_mem (i := 776) (by decide +kernel) (by decide +kernel)
theorem imL_X11_head : Cond.instanceMethod yX11_head ∈ GT := gt_mem (i := 777) (by decide +kernel) (by decide +kernel)
theorem seL_X11_head : Cond.selects yX11_head.cls yX11_head yX11_head ∈ GT := gt_mem (i := 778) (by decide +kernel) (by decide +kernel)
theorem miL_X11_head : Mi yX11_head cX11_head 3 (some .long) 1 := ⟨gt_mem (i := 779) (by decide +kernel) (by decide +kernel), gt_mem (i := 85) (by decide +kernel) (by decide +kernel), by decide +kernel, by decide +kernel, by decide +kernel, by decide +kernel⟩
theorem ml_L_56 : Cond.methodLink R_law 56 yX12_head ∈ GT := gt_mem (i := 1429) (by decide +kernel) (by decide +kernel)
theorem imL_X12_head : Cond.instanceMethod yX12_head ∈ GT := gt_mem (i := 1430) (by decide +kernel) (by decide +kernel)
theorem seL_X12_head : Cond.selects yX12_head.cls yX12_head yX12_head ∈ GT := gt_mem (i := 1431) (by decide +kernel) (by decide +kernel)
theorem miL_X12_head : Mi yX12_head cX12_head 3 (some .long) 1 := ⟨gt_mem (i := 1432) (by decide +kernel) (by decide +kernel), gt_mem (i := 97) (by decide +kernel) (by decide +kernel), by decide +kernel, by decide +kernel, by decide +kernel, by decide +kernel⟩
set_option maxHeartbeats 4000000 in
set_option maxRecDepth 100000 in
theorem law_c8 {z : Zx} {x : Lx} {sb : Nat} {a b : Nat → Nat} {mc mm mc2 mm2 : Mem} {L k : Nat} {xs : Nat → Int32} {r : Int64} (X : OK2 z x L xs) (hsb : x.2.2.2.2.2.2.2 = sb) (hk : k + 6 ≤ L) (hC : fX11_head 0 (xs (k + 1)) mc = some (r, mc2)) (hM : fX12_head 0 (xs (k + 1)) mm = some (r, mm2)) (next : G2 z x 108 4296 a b 17 mc2 mm2 1617 [(0, .ref sb), (1, .ref (a 0)), (2, .ref (b 0)), (3, .int (nI k))] []) : G2 z x 108 4296 a b 17 mc mm 515 [(0, .ref sb), (1, .ref (a 0)), (2, .ref (b 0)), (3, .int (nI k))] [] := by
  subst hsb
  refine q_aload_n (pc := 515) X dL_law_515 rfl 1 rfl ?_
  refine q_aload_n (pc := 516) X dL_law_516 rfl 0 rfl ?_
  refine q_iload_n (pc := 517) X dL_law_517 rfl 3 rfl ?_
  refine q_iconst (v := (1 : Int32)) (pc := 518) X dL_law_518 (by decide) ?_
  refine q_iadd (pc := 519) X dL_law_519 ?_
  refine q_sld (pc := 520) X (nk1 k) (by omega) dL_law_520 ?_
  refine q_callCL (pc := 521) (As := [.int (xs (k + 1))]) (rest := []) X miL_X11_head imL_X11_head seL_X11_head (by decide) rfl clX11 ml_L_53 (cX11_head_ct z a 0 (xs (k + 1)) mc mc2 r hC) rfl rfl (Nat.le_of_ble_eq_true rfl) ⟨rfl, rfl, by decide, by decide, by decide, by decide⟩ dL_law_521 ?_
  refine q_aload_n (pc := 524) X dL_law_524 rfl 2 rfl ?_
  refine q_aload_n (pc := 525) X dL_law_525 rfl 0 rfl ?_
  refine q_iload_n (pc := 526) X dL_law_526 rfl 3 rfl ?_
  refine q_iconst (v := (1 : Int32)) (pc := 527) X dL_law_527 (by decide) ?_
  refine q_iadd (pc := 528) X dL_law_528 ?_
  refine q_sld (pc := 529) X (nk1 k) (by omega) dL_law_529 ?_
  refine q_callML (pc := 530) (As := [.int (xs (k + 1))]) (rest := [.long r]) X miL_X12_head imL_X12_head seL_X12_head (by decide) rfl clX12 ml_L_56 (cX12_head_ct z b 0 (xs (k + 1)) mm mm2 r hM) rfl rfl (Nat.le_of_ble_eq_true rfl) ⟨rfl, rfl, by decide, by decide, by decide, by decide⟩ dL_law_530 ?_
  exact q_lcmp_eq (pc := 533) (tgt := 1617) X dL_law_533 dL_law_534 (by decide) rfl next
theorem ml_L_57 : Cond.methodLink R_law 57 yX11_sailed ∈ GT := gt_mem (i := 780) (by decide +kernel) (by decide +kernel)
theorem imL_X11_sailed : Cond.instanceMethod yX11_sailed ∈ GT := gt_mem (i := 781) (by decide +kernel) (by decide +kernel)
theorem seL_X11_sailed : Cond.selects yX11_sailed.cls yX11_sailed yX11_sailed ∈ GT := gt_mem (i := 782) (by decide +kernel) (by decide +kernel)
theorem miL_X11_sailed : Mi yX11_sailed cX11_sailed 7 (some .long) 3 := ⟨gt_mem (i := 783) (by decide +kernel) (by decide +kernel), gt_mem (i := 85) (by decide +kernel) (by decide +kernel), by decide +kernel, by decide +kernel, by decide +kernel, by decide +kernel⟩
theorem ml_L_60 : Cond.methodLink R_law 60 yX12_sailed ∈ GT := gt_mem (i := 1436) (by decide +kernel) (by decide +kernel)
theorem imL_X12_sailed : Cond.instanceMethod yX12_sailed ∈ GT := gt_mem (i := 1437) (by decide +kernel) (by decide +kernel)
theorem seL_X12_sailed : Cond.selects yX12_sailed.cls yX12_sailed yX12_sailed ∈ GT := gt_mem (i := 1438) (by decide +kernel) (by decide +kernel)
theorem miL_X12_sailed : Mi yX12_sailed cX12_sailed 7 (some .long) 3 := ⟨gt_mem (i := 1439) (by decide +kernel) (by decide +kernel), gt_mem (i := 97) (by decide +kernel) (by decide +kernel), by decide +kernel, by decide +kernel, by decide +kernel, by decide +kernel⟩
set_option maxHeartbeats 4000000 in
set_option maxRecDepth 100000 in
theorem law_c9 {z : Zx} {x : Lx} {sb : Nat} {a b : Nat → Nat} {mc mm mc2 mm2 : Mem} {L k : Nat} {xs : Nat → Int32} {r : Int64} (X : OK2 z x L xs) (hsb : x.2.2.2.2.2.2.2 = sb) (hk : k + 6 ≤ L) (hC : fX11_sailed 0 (xs (k + 1)) (xs (k + 2)) (xs (k + 3)) mc = some (r, mc2)) (hM : fX12_sailed 0 (xs (k + 1)) (xs (k + 2)) (xs (k + 3)) mm = some (r, mm2)) (next : G2 z x 108 4296 a b 17 mc2 mm2 1617 [(0, .ref sb), (1, .ref (a 0)), (2, .ref (b 0)), (3, .int (nI k))] []) : G2 z x 108 4296 a b 17 mc mm 539 [(0, .ref sb), (1, .ref (a 0)), (2, .ref (b 0)), (3, .int (nI k))] [] := by
  subst hsb
  refine q_aload_n (pc := 539) X dL_law_539 rfl 1 rfl ?_
  refine q_aload_n (pc := 540) X dL_law_540 rfl 0 rfl ?_
  refine q_iload_n (pc := 541) X dL_law_541 rfl 3 rfl ?_
  refine q_iconst (v := (1 : Int32)) (pc := 542) X dL_law_542 (by decide) ?_
  refine q_iadd (pc := 543) X dL_law_543 ?_
  refine q_sld (pc := 544) X (nk1 k) (by omega) dL_law_544 ?_
  refine q_aload_n (pc := 545) X dL_law_545 rfl 0 rfl ?_
  refine q_iload_n (pc := 546) X dL_law_546 rfl 3 rfl ?_
  refine q_iconst (v := (2 : Int32)) (pc := 547) X dL_law_547 (by decide) ?_
  refine q_iadd (pc := 548) X dL_law_548 ?_
  refine q_sld (pc := 549) X (nk2 k) (by omega) dL_law_549 ?_
  refine q_aload_n (pc := 550) X dL_law_550 rfl 0 rfl ?_
  refine q_iload_n (pc := 551) X dL_law_551 rfl 3 rfl ?_
  refine q_iconst (v := (3 : Int32)) (pc := 552) X dL_law_552 (by decide) ?_
  refine q_iadd (pc := 553) X dL_law_553 ?_
  refine q_sld (pc := 554) X (nk3 k) (by omega) dL_law_554 ?_
  refine q_callCL (pc := 555) (As := [.int (xs (k + 1)), .int (xs (k + 2)), .int (xs (k + 3))]) (rest := []) X miL_X11_sailed imL_X11_sailed seL_X11_sailed (by decide) rfl clX11 ml_L_57 (cX11_sailed_ct z a 0 (xs (k + 1)) (xs (k + 2)) (xs (k + 3)) mc mc2 r hC) rfl rfl (Nat.le_of_ble_eq_true rfl) ⟨rfl, rfl, by decide, by decide, by decide, by decide⟩ dL_law_555 ?_
  refine q_aload_n (pc := 558) X dL_law_558 rfl 2 rfl ?_
  refine q_aload_n (pc := 559) X dL_law_559 rfl 0 rfl ?_
  refine q_iload_n (pc := 560) X dL_law_560 rfl 3 rfl ?_
  refine q_iconst (v := (1 : Int32)) (pc := 561) X dL_law_561 (by decide) ?_
  refine q_iadd (pc := 562) X dL_law_562 ?_
  refine q_sld (pc := 563) X (nk1 k) (by omega) dL_law_563 ?_
  refine q_aload_n (pc := 564) X dL_law_564 rfl 0 rfl ?_
  refine q_iload_n (pc := 565) X dL_law_565 rfl 3 rfl ?_
  refine q_iconst (v := (2 : Int32)) (pc := 566) X dL_law_566 (by decide) ?_
  refine q_iadd (pc := 567) X dL_law_567 ?_
  refine q_sld (pc := 568) X (nk2 k) (by omega) dL_law_568 ?_
  refine q_aload_n (pc := 569) X dL_law_569 rfl 0 rfl ?_
  refine q_iload_n (pc := 570) X dL_law_570 rfl 3 rfl ?_
  refine q_iconst (v := (3 : Int32)) (pc := 571) X dL_law_571 (by decide) ?_
  refine q_iadd (pc := 572) X dL_law_572 ?_
  refine q_sld (pc := 573) X (nk3 k) (by omega) dL_law_573 ?_
  refine q_callML (pc := 574) (As := [.int (xs (k + 1)), .int (xs (k + 2)), .int (xs (k + 3))]) (rest := [.long r]) X miL_X12_sailed imL_X12_sailed seL_X12_sailed (by decide) rfl clX12 ml_L_60 (cX12_sailed_ct z b 0 (xs (k + 1)) (xs (k + 2)) (xs (k + 3)) mm mm2 r hM) rfl rfl (Nat.le_of_ble_eq_true rfl) ⟨rfl, rfl, by decide, by decide, by decide, by decide⟩ dL_law_574 ?_
  exact q_lcmp_eq (pc := 577) (tgt := 1617) X dL_law_577 dL_law_578 (by decide) rfl next
theorem ml_L_61 : Cond.methodLink R_law 61 yX11_blown ∈ GT := gt_mem (i := 818) (by decide +kernel) (by decide +kernel)
theorem imL_X11_blown : Cond.instanceMethod yX11_blown ∈ GT := gt_mem (i := 819) (by decide +kernel) (by decide +kernel)
theorem seL_X11_blown : Cond.selects yX11_blown.cls yX11_blown yX11_blown ∈ GT := gt_mem (i := 820) (by decide +kernel) (by decide +kernel)
theorem miL_X11_blown : Mi yX11_blown cX11_blown 6 (some .long) 3 := ⟨gt_mem (i := 821) (by decide +kernel) (by decide +kernel), gt_mem (i := 85) (by decide +kernel) (by decide +kernel), by decide +kernel, by decide +kernel, by decide +kernel, by decide +kernel⟩
theorem ml_L_64 : Cond.methodLink R_law 64 yX12_blown ∈ GT := gt_mem (i := 1470) (by decide +kernel) (by decide +kernel)
theorem imL_X12_blown : Cond.instanceMethod yX12_blown ∈ GT := gt_mem (i := 1471) (by decide +kernel) (by decide +kernel)
theorem seL_X12_blown : Cond.selects yX12_blown.cls yX12_blown yX12_blown ∈ GT := gt_mem (i := 1472) (by decide +kernel) (by decide +kernel)
theorem miL_X12_blown : Mi yX12_blown cX12_blown 5 (some .long) 3 := ⟨gt_mem (i := 1473) (by decide +kernel) (by decide +kernel), gt_mem (i := 97) (by decide +kernel) (by decide +kernel), by decide +kernel, by decide +kernel, by decide +kernel, by decide +kernel⟩
set_option maxHeartbeats 4000000 in
set_option maxRecDepth 100000 in
theorem law_c10 {z : Zx} {x : Lx} {sb : Nat} {a b : Nat → Nat} {mc mm mc2 mm2 : Mem} {L k : Nat} {xs : Nat → Int32} {r : Int64} (X : OK2 z x L xs) (hsb : x.2.2.2.2.2.2.2 = sb) (hk : k + 6 ≤ L) (hC : fX11_blown 0 (xs (k + 1)) (xs (k + 2)) (xs (k + 3)) mc = some (r, mc2)) (hM : fX12_blown 0 (xs (k + 1)) (xs (k + 2)) (xs (k + 3)) mm = some (r, mm2)) (next : G2 z x 108 4296 a b 17 mc2 mm2 1617 [(0, .ref sb), (1, .ref (a 0)), (2, .ref (b 0)), (3, .int (nI k))] []) : G2 z x 108 4296 a b 17 mc mm 583 [(0, .ref sb), (1, .ref (a 0)), (2, .ref (b 0)), (3, .int (nI k))] [] := by
  subst hsb
  refine q_aload_n (pc := 583) X dL_law_583 rfl 1 rfl ?_
  refine q_aload_n (pc := 584) X dL_law_584 rfl 0 rfl ?_
  refine q_iload_n (pc := 585) X dL_law_585 rfl 3 rfl ?_
  refine q_iconst (v := (1 : Int32)) (pc := 586) X dL_law_586 (by decide) ?_
  refine q_iadd (pc := 587) X dL_law_587 ?_
  refine q_sld (pc := 588) X (nk1 k) (by omega) dL_law_588 ?_
  refine q_aload_n (pc := 589) X dL_law_589 rfl 0 rfl ?_
  refine q_iload_n (pc := 590) X dL_law_590 rfl 3 rfl ?_
  refine q_iconst (v := (2 : Int32)) (pc := 591) X dL_law_591 (by decide) ?_
  refine q_iadd (pc := 592) X dL_law_592 ?_
  refine q_sld (pc := 593) X (nk2 k) (by omega) dL_law_593 ?_
  refine q_aload_n (pc := 594) X dL_law_594 rfl 0 rfl ?_
  refine q_iload_n (pc := 595) X dL_law_595 rfl 3 rfl ?_
  refine q_iconst (v := (3 : Int32)) (pc := 596) X dL_law_596 (by decide) ?_
  refine q_iadd (pc := 597) X dL_law_597 ?_
  refine q_sld (pc := 598) X (nk3 k) (by omega) dL_law_598 ?_
  refine q_callCL (pc := 599) (As := [.int (xs (k + 1)), .int (xs (k + 2)), .int (xs (k + 3))]) (rest := []) X miL_X11_blown imL_X11_blown seL_X11_blown (by decide) rfl clX11 ml_L_61 (cX11_blown_ct z a 0 (xs (k + 1)) (xs (k + 2)) (xs (k + 3)) mc mc2 r hC) rfl rfl (Nat.le_of_ble_eq_true rfl) ⟨rfl, rfl, by decide, by decide, by decide, by decide⟩ dL_law_599 ?_
  refine q_aload_n (pc := 602) X dL_law_602 rfl 2 rfl ?_
  refine q_aload_n (pc := 603) X dL_law_603 rfl 0 rfl ?_
  refine q_iload_n (pc := 604) X dL_law_604 rfl 3 rfl ?_
  refine q_iconst (v := (1 : Int32)) (pc := 605) X dL_law_605 (by decide) ?_
  refine q_iadd (pc := 606) X dL_law_606 ?_
  refine q_sld (pc := 607) X (nk1 k) (by omega) dL_law_607 ?_
  refine q_aload_n (pc := 608) X dL_law_608 rfl 0 rfl ?_
  refine q_iload_n (pc := 609) X dL_law_609 rfl 3 rfl ?_
  refine q_iconst (v := (2 : Int32)) (pc := 610) X dL_law_610 (by decide) ?_
  refine q_iadd (pc := 611) X dL_law_611 ?_
  refine q_sld (pc := 612) X (nk2 k) (by omega) dL_law_612 ?_
  refine q_aload_n (pc := 613) X dL_law_613 rfl 0 rfl ?_
  refine q_iload_n (pc := 614) X dL_law_614 rfl 3 rfl ?_
  refine q_iconst (v := (3 : Int32)) (pc := 615) X dL_law_615 (by decide) ?_
  refine q_iadd (pc := 616) X dL_law_616 ?_
  refine q_sld (pc := 617) X (nk3 k) (by omega) dL_law_617 ?_
  refine q_callML (pc := 618) (As := [.int (xs (k + 1)), .int (xs (k + 2)), .int (xs (k + 3))]) (rest := [.long r]) X miL_X12_blown imL_X12_blown seL_X12_blown (by decide) rfl clX12 ml_L_64 (cX12_blown_ct z b 0 (xs (k + 1)) (xs (k + 2)) (xs (k + 3)) mm mm2 r hM) rfl rfl (Nat.le_of_ble_eq_true rfl) ⟨rfl, rfl, by decide, by decide, by decide, by decide⟩ dL_law_618 ?_
  exact q_lcmp_eq (pc := 621) (tgt := 1617) X dL_law_621 dL_law_622 (by decide) rfl next
theorem ml_L_65 : Cond.methodLink R_law 65 yX11_ship ∈ GT := gt_mem (i := 827) (by decide +kernel) (by decide +kernel)
theorem imL_X11_ship : Cond.instanceMethod yX11_ship ∈ GT := gt_mem (i := 828) (by decide +kernel) (by decide +kernel)
theorem seL_X11_ship : Cond.selects yX11_ship.cls yX11_ship yX11_ship ∈ GT := gt_mem (i := 829) (by decide +kernel) (by decide +kernel)
theorem miL_X11_ship : Mi yX11_ship cX11_ship 3 (some .long) 1 := ⟨gt_mem (i := 830) (by decide +kernel) (by decide +kernel), gt_mem (i := 85) (by decide +kernel) (by decide +kernel), by decide +kernel, by decide +kernel, by decide +kernel, by decide +kernel⟩
theorem ml_L_68 : Cond.methodLink R_law 68 yX12_ship ∈ GT := gt_mem (i := 1475) (by decide +kernel) (by decide +kernel)
theorem imL_X12_ship : Cond.instanceMethod yX12_ship ∈ GT := gt_mem (i := 1476) (by decide +kernel) (by decide +kernel)
theorem seL_X12_ship : Cond.selects yX12_ship.cls yX12_ship yX12_ship ∈ GT := gt_mem (i := 1477) (by decide +kernel) (by decide +kernel)
theorem miL_X12_ship : Mi yX12_ship cX12_ship 2 (some .long) 1 := ⟨gt_mem (i := 1478) (by decide +kernel) (by decide +kernel), gt_mem (i := 97) (by decide +kernel) (by decide +kernel), by decide +kernel, by decide +kernel, by decide +kernel, by decide +kernel⟩
set_option maxHeartbeats 4000000 in
set_option maxRecDepth 100000 in
theorem law_c11 {z : Zx} {x : Lx} {sb : Nat} {a b : Nat → Nat} {mc mm mm2 : Mem} {L k : Nat} {xs : Nat → Int32} {r : Int64} (X : OK2 z x L xs) (hsb : x.2.2.2.2.2.2.2 = sb) (hk : k + 6 ≤ L) (hC : fX11_ship 0 (xs (k + 1)) mc = some r) (hM : fX12_ship 0 (xs (k + 1)) mm = some (r, mm2)) (next : G2 z x 108 4296 a b 17 mc mm2 1617 [(0, .ref sb), (1, .ref (a 0)), (2, .ref (b 0)), (3, .int (nI k))] []) : G2 z x 108 4296 a b 17 mc mm 627 [(0, .ref sb), (1, .ref (a 0)), (2, .ref (b 0)), (3, .int (nI k))] [] := by
  subst hsb
  refine q_aload_n (pc := 627) X dL_law_627 rfl 1 rfl ?_
  refine q_aload_n (pc := 628) X dL_law_628 rfl 0 rfl ?_
  refine q_iload_n (pc := 629) X dL_law_629 rfl 3 rfl ?_
  refine q_iconst (v := (1 : Int32)) (pc := 630) X dL_law_630 (by decide) ?_
  refine q_iadd (pc := 631) X dL_law_631 ?_
  refine q_sld (pc := 632) X (nk1 k) (by omega) dL_law_632 ?_
  refine q_callCL (pc := 633) (As := [.int (xs (k + 1))]) (rest := []) X miL_X11_ship imL_X11_ship seL_X11_ship (by decide) rfl clX11 ml_L_65 (cX11_ship_ct z a 0 (xs (k + 1)) mc r hC) rfl rfl (Nat.le_of_ble_eq_true rfl) ⟨rfl, rfl, by decide, by decide, by decide, by decide⟩ dL_law_633 ?_
  refine q_aload_n (pc := 636) X dL_law_636 rfl 2 rfl ?_
  refine q_aload_n (pc := 637) X dL_law_637 rfl 0 rfl ?_
  refine q_iload_n (pc := 638) X dL_law_638 rfl 3 rfl ?_
  refine q_iconst (v := (1 : Int32)) (pc := 639) X dL_law_639 (by decide) ?_
  refine q_iadd (pc := 640) X dL_law_640 ?_
  refine q_sld (pc := 641) X (nk1 k) (by omega) dL_law_641 ?_
  refine q_callML (pc := 642) (As := [.int (xs (k + 1))]) (rest := [.long r]) X miL_X12_ship imL_X12_ship seL_X12_ship (by decide) rfl clX12 ml_L_68 (cX12_ship_ct z b 0 (xs (k + 1)) mm mm2 r hM) rfl rfl (Nat.le_of_ble_eq_true rfl) ⟨rfl, rfl, by decide, by decide, by decide, by decide⟩ dL_law_642 ?_
  exact q_lcmp_eq (pc := 645) (tgt := 1617) X dL_law_645 dL_law_646 (by decide) rfl next
theorem ml_L_69 : Cond.methodLink R_law 69 yX11_herself ∈ GT := gt_mem (i := 832) (by decide +kernel) (by decide +kernel)
theorem imL_X11_herself : Cond.instanceMethod yX11_herself ∈ GT := gt_mem (i := 833) (by decide +kernel) (by decide +kernel)
theorem seL_X11_herself : Cond.selects yX11_herself.cls yX11_herself yX11_herself ∈ GT := gt_mem (i := 834) (by decide +kernel) (by decide +kernel)
theorem miL_X11_herself : Mi yX11_herself cX11_herself 6 (some .long) 5 := ⟨gt_mem (i := 835) (by decide +kernel) (by decide +kernel), gt_mem (i := 85) (by decide +kernel) (by decide +kernel), by decide +kernel, by decide +kernel, by decide +kernel, by decide +kernel⟩
theorem ml_L_72 : Cond.methodLink R_law 72 yX12_herself ∈ GT := gt_mem (i := 1480) (by decide +kernel) (by decide +kernel)
theorem imL_X12_herself : Cond.instanceMethod yX12_herself ∈ GT := gt_mem (i := 1481) (by decide +kernel) (by decide +kernel)
theorem seL_X12_herself : Cond.selects yX12_herself.cls yX12_herself yX12_herself ∈ GT := gt_mem (i := 1482) (by decide +kernel) (by decide +kernel)
theorem miL_X12_herself : Mi yX12_herself cX12_herself 6 (some .long) 5 := ⟨gt_mem (i := 1483) (by decide +kernel) (by decide +kernel), gt_mem (i := 97) (by decide +kernel) (by decide +kernel), by decide +kernel, by decide +kernel, by decide +kernel, by decide +kernel⟩
set_option maxHeartbeats 4000000 in
set_option maxRecDepth 100000 in
theorem law_c12 {z : Zx} {x : Lx} {sb : Nat} {a b : Nat → Nat} {mc mm mc2 mm2 : Mem} {L k : Nat} {xs : Nat → Int32} {r : Int64} (X : OK2 z x L xs) (hsb : x.2.2.2.2.2.2.2 = sb) (hk : k + 6 ≤ L) (hC : fX11_herself 0 (xs (k + 1)) (xs (k + 2)) (xs (k + 3)) (xs (k + 4)) (xs (k + 5)) mc = some (r, mc2)) (hM : fX12_herself 0 (xs (k + 1)) (xs (k + 2)) (xs (k + 3)) (xs (k + 4)) (xs (k + 5)) mm = some (r, mm2)) (next : G2 z x 108 4296 a b 17 mc2 mm2 1617 [(0, .ref sb), (1, .ref (a 0)), (2, .ref (b 0)), (3, .int (nI k))] []) : G2 z x 108 4296 a b 17 mc mm 651 [(0, .ref sb), (1, .ref (a 0)), (2, .ref (b 0)), (3, .int (nI k))] [] := by
  subst hsb
  refine q_aload_n (pc := 651) X dL_law_651 rfl 1 rfl ?_
  refine q_aload_n (pc := 652) X dL_law_652 rfl 0 rfl ?_
  refine q_iload_n (pc := 653) X dL_law_653 rfl 3 rfl ?_
  refine q_iconst (v := (1 : Int32)) (pc := 654) X dL_law_654 (by decide) ?_
  refine q_iadd (pc := 655) X dL_law_655 ?_
  refine q_sld (pc := 656) X (nk1 k) (by omega) dL_law_656 ?_
  refine q_aload_n (pc := 657) X dL_law_657 rfl 0 rfl ?_
  refine q_iload_n (pc := 658) X dL_law_658 rfl 3 rfl ?_
  refine q_iconst (v := (2 : Int32)) (pc := 659) X dL_law_659 (by decide) ?_
  refine q_iadd (pc := 660) X dL_law_660 ?_
  refine q_sld (pc := 661) X (nk2 k) (by omega) dL_law_661 ?_
  refine q_aload_n (pc := 662) X dL_law_662 rfl 0 rfl ?_
  refine q_iload_n (pc := 663) X dL_law_663 rfl 3 rfl ?_
  refine q_iconst (v := (3 : Int32)) (pc := 664) X dL_law_664 (by decide) ?_
  refine q_iadd (pc := 665) X dL_law_665 ?_
  refine q_sld (pc := 666) X (nk3 k) (by omega) dL_law_666 ?_
  refine q_aload_n (pc := 667) X dL_law_667 rfl 0 rfl ?_
  refine q_iload_n (pc := 668) X dL_law_668 rfl 3 rfl ?_
  refine q_iconst (v := (4 : Int32)) (pc := 669) X dL_law_669 (by decide) ?_
  refine q_iadd (pc := 670) X dL_law_670 ?_
  refine q_sld (pc := 671) X (nk4 k) (by omega) dL_law_671 ?_
  refine q_aload_n (pc := 672) X dL_law_672 rfl 0 rfl ?_
  refine q_iload_n (pc := 673) X dL_law_673 rfl 3 rfl ?_
  refine q_iconst (v := (5 : Int32)) (pc := 674) X dL_law_674 (by decide) ?_
  refine q_iadd (pc := 675) X dL_law_675 ?_
  refine q_sld (pc := 676) X (nk5 k) (by omega) dL_law_676 ?_
  refine q_callCL (pc := 677) (As := [.int (xs (k + 1)), .int (xs (k + 2)), .int (xs (k + 3)), .int (xs (k + 4)), .int (xs (k + 5))]) (rest := []) X miL_X11_herself imL_X11_herself seL_X11_herself (by decide) rfl clX11 ml_L_69 (cX11_herself_ct z a 0 (xs (k + 1)) (xs (k + 2)) (xs (k + 3)) (xs (k + 4)) (xs (k + 5)) mc mc2 r hC) rfl rfl (Nat.le_of_ble_eq_true rfl) ⟨rfl, rfl, by decide, by decide, by decide, by decide⟩ dL_law_677 ?_
  refine q_aload_n (pc := 680) X dL_law_680 rfl 2 rfl ?_
  refine q_aload_n (pc := 681) X dL_law_681 rfl 0 rfl ?_
  refine q_iload_n (pc := 682) X dL_law_682 rfl 3 rfl ?_
  refine q_iconst (v := (1 : Int32)) (pc := 683) X dL_law_683 (by decide) ?_
  refine q_iadd (pc := 684) X dL_law_684 ?_
  refine q_sld (pc := 685) X (nk1 k) (by omega) dL_law_685 ?_
  refine q_aload_n (pc := 686) X dL_law_686 rfl 0 rfl ?_
  refine q_iload_n (pc := 687) X dL_law_687 rfl 3 rfl ?_
  refine q_iconst (v := (2 : Int32)) (pc := 688) X dL_law_688 (by decide) ?_
  refine q_iadd (pc := 689) X dL_law_689 ?_
  refine q_sld (pc := 690) X (nk2 k) (by omega) dL_law_690 ?_
  refine q_aload_n (pc := 691) X dL_law_691 rfl 0 rfl ?_
  refine q_iload_n (pc := 692) X dL_law_692 rfl 3 rfl ?_
  refine q_iconst (v := (3 : Int32)) (pc := 693) X dL_law_693 (by decide) ?_
  refine q_iadd (pc := 694) X dL_law_694 ?_
  refine q_sld (pc := 695) X (nk3 k) (by omega) dL_law_695 ?_
  refine q_aload_n (pc := 696) X dL_law_696 rfl 0 rfl ?_
  refine q_iload_n (pc := 697) X dL_law_697 rfl 3 rfl ?_
  refine q_iconst (v := (4 : Int32)) (pc := 698) X dL_law_698 (by decide) ?_
  refine q_iadd (pc := 699) X dL_law_699 ?_
  refine q_sld (pc := 700) X (nk4 k) (by omega) dL_law_700 ?_
  refine q_aload_n (pc := 701) X dL_law_701 rfl 0 rfl ?_
  refine q_iload_n (pc := 702) X dL_law_702 rfl 3 rfl ?_
  refine q_iconst (v := (5 : Int32)) (pc := 703) X dL_law_703 (by decide) ?_
  refine q_iadd (pc := 704) X dL_law_704 ?_
  refine q_sld (pc := 705) X (nk5 k) (by omega) dL_law_705 ?_
  refine q_callML (pc := 706) (As := [.int (xs (k + 1)), .int (xs (k + 2)), .int (xs (k + 3)), .int (xs (k + 4)), .int (xs (k + 5))]) (rest := [.long r]) X miL_X12_herself imL_X12_herself seL_X12_herself (by decide) rfl clX12 ml_L_72 (cX12_herself_ct z b 0 (xs (k + 1)) (xs (k + 2)) (xs (k + 3)) (xs (k + 4)) (xs (k + 5)) mm mm2 r hM) rfl rfl (Nat.le_of_ble_eq_true rfl) ⟨rfl, rfl, by decide, by decide, by decide, by decide⟩ dL_law_706 ?_
  exact q_lcmp_eq (pc := 709) (tgt := 1617) X dL_law_709 dL_law_710 (by decide) rfl next
theorem ml_L_73 : Cond.methodLink R_law 73 yX11_could ∈ GT := gt_mem (i := 870) (by decide +kernel) (by decide +kernel)
theorem imL_X11_could : Cond.instanceMethod yX11_could ∈ GT := gt_mem (i := 871) (by decide +kernel) (by decide +kernel)
theorem seL_X11_could : Cond.selects yX11_could.cls yX11_could yX11_could ∈ GT := gt_mem (i := 872) (by decide +kernel) (by decide +kernel)
theorem miL_X11_could : Mi yX11_could cX11_could 5 (some .long) 2 := ⟨gt_mem (i := 873) (by decide +kernel) (by decide +kernel), gt_mem (i := 85) (by decide +kernel) (by decide +kernel), by decide +kernel, by decide +kernel, by decide +kernel, by decide +kernel⟩
theorem ml_L_77 : Cond.methodLink R_law 77 yX12_could ∈ GT := gt_mem (i := 1511) (by decide +kernel) (by decide +kernel)
theorem imL_X12_could : Cond.instanceMethod yX12_could ∈ GT := gt_mem (i := 1512) (by decide +kernel) (by decide +kernel)
theorem seL_X12_could : Cond.selects yX12_could.cls yX12_could yX12_could ∈ GT := gt_mem (i := 1513) (by decide +kernel) (by decide +kernel)
theorem miL_X12_could : Mi yX12_could cX12_could 5 (some .long) 2 := ⟨gt_mem (i := 1514) (by decide +kernel) (by decide +kernel), gt_mem (i := 97) (by decide +kernel) (by decide +kernel), by decide +kernel, by decide +kernel, by decide +kernel, by decide +kernel⟩
set_option maxHeartbeats 4000000 in
set_option maxRecDepth 100000 in
theorem law_c13 {z : Zx} {x : Lx} {sb : Nat} {a b : Nat → Nat} {mc mm mc2 mm2 : Mem} {L k : Nat} {xs : Nat → Int32} {r : Int64} (X : OK2 z x L xs) (hsb : x.2.2.2.2.2.2.2 = sb) (hk : k + 6 ≤ L) (hC : fX11_could 0 (xs (k + 1)) (xs (k + 2)) mc = some (r, mc2)) (hM : fX12_could 0 (xs (k + 1)) (xs (k + 2)) mm = some (r, mm2)) (next : G2 z x 108 4296 a b 17 mc2 mm2 1617 [(0, .ref sb), (1, .ref (a 0)), (2, .ref (b 0)), (3, .int (nI k))] []) : G2 z x 108 4296 a b 17 mc mm 715 [(0, .ref sb), (1, .ref (a 0)), (2, .ref (b 0)), (3, .int (nI k))] [] := by
  subst hsb
  refine q_aload_n (pc := 715) X dL_law_715 rfl 1 rfl ?_
  refine q_aload_n (pc := 716) X dL_law_716 rfl 0 rfl ?_
  refine q_iload_n (pc := 717) X dL_law_717 rfl 3 rfl ?_
  refine q_iconst (v := (1 : Int32)) (pc := 718) X dL_law_718 (by decide) ?_
  refine q_iadd (pc := 719) X dL_law_719 ?_
  refine q_sld (pc := 720) X (nk1 k) (by omega) dL_law_720 ?_
  refine q_aload_n (pc := 721) X dL_law_721 rfl 0 rfl ?_
  refine q_iload_n (pc := 722) X dL_law_722 rfl 3 rfl ?_
  refine q_iconst (v := (2 : Int32)) (pc := 723) X dL_law_723 (by decide) ?_
  refine q_iadd (pc := 724) X dL_law_724 ?_
  refine q_sld (pc := 725) X (nk2 k) (by omega) dL_law_725 ?_
  refine q_callCL (pc := 726) (As := [.int (xs (k + 1)), .int (xs (k + 2))]) (rest := []) X miL_X11_could imL_X11_could seL_X11_could (by decide) rfl clX11 ml_L_73 (cX11_could_ct z a 0 (xs (k + 1)) (xs (k + 2)) mc mc2 r hC) rfl rfl (Nat.le_of_ble_eq_true rfl) ⟨rfl, rfl, by decide, by decide, by decide, by decide⟩ dL_law_726 ?_
  refine q_aload_n (pc := 729) X dL_law_729 rfl 2 rfl ?_
  refine q_aload_n (pc := 730) X dL_law_730 rfl 0 rfl ?_
  refine q_iload_n (pc := 731) X dL_law_731 rfl 3 rfl ?_
  refine q_iconst (v := (1 : Int32)) (pc := 732) X dL_law_732 (by decide) ?_
  refine q_iadd (pc := 733) X dL_law_733 ?_
  refine q_sld (pc := 734) X (nk1 k) (by omega) dL_law_734 ?_
  refine q_aload_n (pc := 735) X dL_law_735 rfl 0 rfl ?_
  refine q_iload_n (pc := 736) X dL_law_736 rfl 3 rfl ?_
  refine q_iconst (v := (2 : Int32)) (pc := 737) X dL_law_737 (by decide) ?_
  refine q_iadd (pc := 738) X dL_law_738 ?_
  refine q_sld (pc := 739) X (nk2 k) (by omega) dL_law_739 ?_
  refine q_callML (pc := 740) (As := [.int (xs (k + 1)), .int (xs (k + 2))]) (rest := [.long r]) X miL_X12_could imL_X12_could seL_X12_could (by decide) rfl clX12 ml_L_77 (cX12_could_ct z b 0 (xs (k + 1)) (xs (k + 2)) mm mm2 r hM) rfl rfl (Nat.le_of_ble_eq_true rfl) ⟨rfl, rfl, by decide, by decide, by decide, by decide⟩ dL_law_740 ?_
  exact q_lcmp_eq (pc := 743) (tgt := 1617) X dL_law_743 dL_law_744 (by decide) rfl next
theorem ml_L_78 : Cond.methodLink R_law 78 yX11_leftAt ∈ GT := gt_mem (i := 879) (by decide +kernel) (by decide +kernel)
theorem imL_X11_leftAt : Cond.instanceMethod yX11_leftAt ∈ GT := gt_mem (i := 880) (by decide +kernel) (by decide +kernel)
theorem seL_X11_leftAt : Cond.selects yX11_leftAt.cls yX11_leftAt yX11_leftAt ∈ GT := gt_mem (i := 881) (by decide +kernel) (by decide +kernel)
theorem miL_X11_leftAt : Mi yX11_leftAt cX11_leftAt 8 (some .long) 3 := ⟨gt_mem (i := 882) (by decide +kernel) (by decide +kernel), gt_mem (i := 85) (by decide +kernel) (by decide +kernel), by decide +kernel, by decide +kernel, by decide +kernel, by decide +kernel⟩
theorem ml_L_81 : Cond.methodLink R_law 81 yX12_leftAt ∈ GT := gt_mem (i := 1515) (by decide +kernel) (by decide +kernel)
theorem imL_X12_leftAt : Cond.instanceMethod yX12_leftAt ∈ GT := gt_mem (i := 1516) (by decide +kernel) (by decide +kernel)
theorem seL_X12_leftAt : Cond.selects yX12_leftAt.cls yX12_leftAt yX12_leftAt ∈ GT := gt_mem (i := 1517) (by decide +kernel) (by decide +kernel)
theorem miL_X12_leftAt : Mi yX12_leftAt cX12_leftAt 8 (some .long) 3 := ⟨gt_mem (i := 1518) (by decide +kernel) (by decide +kernel), gt_mem (i := 97) (by decide +kernel) (by decide +kernel), by decide +kernel, by decide +kernel, by decide +kernel, by decide +kernel⟩
set_option maxHeartbeats 4000000 in
set_option maxRecDepth 100000 in
theorem law_c14 {z : Zx} {x : Lx} {sb : Nat} {a b : Nat → Nat} {mc mm mc2 mm2 : Mem} {L k : Nat} {xs : Nat → Int32} {r : Int64} (X : OK2 z x L xs) (hsb : x.2.2.2.2.2.2.2 = sb) (hk : k + 6 ≤ L) (hC : fX11_leftAt 0 (xs (k + 1)) (xs (k + 2)) (xs (k + 3)) mc = some (r, mc2)) (hM : fX12_leftAt 0 (xs (k + 1)) (xs (k + 2)) (xs (k + 3)) mm = some (r, mm2)) (next : G2 z x 108 4296 a b 17 mc2 mm2 1617 [(0, .ref sb), (1, .ref (a 0)), (2, .ref (b 0)), (3, .int (nI k))] []) : G2 z x 108 4296 a b 17 mc mm 749 [(0, .ref sb), (1, .ref (a 0)), (2, .ref (b 0)), (3, .int (nI k))] [] := by
  subst hsb
  refine q_aload_n (pc := 749) X dL_law_749 rfl 1 rfl ?_
  refine q_aload_n (pc := 750) X dL_law_750 rfl 0 rfl ?_
  refine q_iload_n (pc := 751) X dL_law_751 rfl 3 rfl ?_
  refine q_iconst (v := (1 : Int32)) (pc := 752) X dL_law_752 (by decide) ?_
  refine q_iadd (pc := 753) X dL_law_753 ?_
  refine q_sld (pc := 754) X (nk1 k) (by omega) dL_law_754 ?_
  refine q_aload_n (pc := 755) X dL_law_755 rfl 0 rfl ?_
  refine q_iload_n (pc := 756) X dL_law_756 rfl 3 rfl ?_
  refine q_iconst (v := (2 : Int32)) (pc := 757) X dL_law_757 (by decide) ?_
  refine q_iadd (pc := 758) X dL_law_758 ?_
  refine q_sld (pc := 759) X (nk2 k) (by omega) dL_law_759 ?_
  refine q_aload_n (pc := 760) X dL_law_760 rfl 0 rfl ?_
  refine q_iload_n (pc := 761) X dL_law_761 rfl 3 rfl ?_
  refine q_iconst (v := (3 : Int32)) (pc := 762) X dL_law_762 (by decide) ?_
  refine q_iadd (pc := 763) X dL_law_763 ?_
  refine q_sld (pc := 764) X (nk3 k) (by omega) dL_law_764 ?_
  refine q_callCL (pc := 765) (As := [.int (xs (k + 1)), .int (xs (k + 2)), .int (xs (k + 3))]) (rest := []) X miL_X11_leftAt imL_X11_leftAt seL_X11_leftAt (by decide) rfl clX11 ml_L_78 (cX11_leftAt_ct z a 0 (xs (k + 1)) (xs (k + 2)) (xs (k + 3)) mc mc2 r hC) rfl rfl (Nat.le_of_ble_eq_true rfl) ⟨rfl, rfl, by decide, by decide, by decide, by decide⟩ dL_law_765 ?_
  refine q_aload_n (pc := 768) X dL_law_768 rfl 2 rfl ?_
  refine q_aload_n (pc := 769) X dL_law_769 rfl 0 rfl ?_
  refine q_iload_n (pc := 770) X dL_law_770 rfl 3 rfl ?_
  refine q_iconst (v := (1 : Int32)) (pc := 771) X dL_law_771 (by decide) ?_
  refine q_iadd (pc := 772) X dL_law_772 ?_
  refine q_sld (pc := 773) X (nk1 k) (by omega) dL_law_773 ?_
  refine q_aload_n (pc := 774) X dL_law_774 rfl 0 rfl ?_
  refine q_iload_n (pc := 775) X dL_law_775 rfl 3 rfl ?_
  refine q_iconst (v := (2 : Int32)) (pc := 776) X dL_law_776 (by decide) ?_
  refine q_iadd (pc := 777) X dL_law_777 ?_
  refine q_sld (pc := 778) X (nk2 k) (by omega) dL_law_778 ?_
  refine q_aload_n (pc := 779) X dL_law_779 rfl 0 rfl ?_
  refine q_iload_n (pc := 780) X dL_law_780 rfl 3 rfl ?_
  refine q_iconst (v := (3 : Int32)) (pc := 781) X dL_law_781 (by decide) ?_
  refine q_iadd (pc := 782) X dL_law_782 ?_
  refine q_sld (pc := 783) X (nk3 k) (by omega) dL_law_783 ?_
  refine q_callML (pc := 784) (As := [.int (xs (k + 1)), .int (xs (k + 2)), .int (xs (k + 3))]) (rest := [.long r]) X miL_X12_leftAt imL_X12_leftAt seL_X12_leftAt (by decide) rfl clX12 ml_L_81 (cX12_leftAt_ct z b 0 (xs (k + 1)) (xs (k + 2)) (xs (k + 3)) mm mm2 r hM) rfl rfl (Nat.le_of_ble_eq_true rfl) ⟨rfl, rfl, by decide, by decide, by decide, by decide⟩ dL_law_784 ?_
  exact q_lcmp_eq (pc := 787) (tgt := 1617) X dL_law_787 dL_law_788 (by decide) rfl next
theorem ml_L_82 : Cond.methodLink R_law 82 yX11_leftOdds ∈ GT := gt_mem (i := 888) (by decide +kernel) (by decide +kernel)
theorem imL_X11_leftOdds : Cond.instanceMethod yX11_leftOdds ∈ GT := gt_mem (i := 889) (by decide +kernel) (by decide +kernel)
theorem seL_X11_leftOdds : Cond.selects yX11_leftOdds.cls yX11_leftOdds yX11_leftOdds ∈ GT := gt_mem (i := 890) (by decide +kernel) (by decide +kernel)
theorem miL_X11_leftOdds : Mi yX11_leftOdds cX11_leftOdds 9 (some .long) 5 := ⟨gt_mem (i := 891) (by decide +kernel) (by decide +kernel), gt_mem (i := 85) (by decide +kernel) (by decide +kernel), by decide +kernel, by decide +kernel, by decide +kernel, by decide +kernel⟩
theorem ml_L_85 : Cond.methodLink R_law 85 yX12_leftOdds ∈ GT := gt_mem (i := 1524) (by decide +kernel) (by decide +kernel)
theorem imL_X12_leftOdds : Cond.instanceMethod yX12_leftOdds ∈ GT := gt_mem (i := 1525) (by decide +kernel) (by decide +kernel)
theorem seL_X12_leftOdds : Cond.selects yX12_leftOdds.cls yX12_leftOdds yX12_leftOdds ∈ GT := gt_mem (i := 1526) (by decide +kernel) (by decide +kernel)
theorem miL_X12_leftOdds : Mi yX12_leftOdds cX12_leftOdds 6 (some .long) 5 := ⟨gt_mem (i := 1527) (by decide +kernel) (by decide +kernel), gt_mem (i := 97) (by decide +kernel) (by decide +kernel), by decide +kernel, by decide +kernel, by decide +kernel, by decide +kernel⟩
set_option maxHeartbeats 4000000 in
set_option maxRecDepth 100000 in
theorem law_c15 {z : Zx} {x : Lx} {sb : Nat} {a b : Nat → Nat} {mc mm mc2 mm2 : Mem} {L k : Nat} {xs : Nat → Int32} {r : Int64} (X : OK2 z x L xs) (hsb : x.2.2.2.2.2.2.2 = sb) (hk : k + 6 ≤ L) (hC : fX11_leftOdds 0 (xs (k + 1)) (xs (k + 2)) (xs (k + 3)) (xs (k + 4)) (xs (k + 5)) mc = some (r, mc2)) (hM : fX12_leftOdds 0 (xs (k + 1)) (xs (k + 2)) (xs (k + 3)) (xs (k + 4)) (xs (k + 5)) mm = some (r, mm2)) (next : G2 z x 108 4296 a b 17 mc2 mm2 1617 [(0, .ref sb), (1, .ref (a 0)), (2, .ref (b 0)), (3, .int (nI k))] []) : G2 z x 108 4296 a b 17 mc mm 793 [(0, .ref sb), (1, .ref (a 0)), (2, .ref (b 0)), (3, .int (nI k))] [] := by
  subst hsb
  refine q_aload_n (pc := 793) X dL_law_793 rfl 1 rfl ?_
  refine q_aload_n (pc := 794) X dL_law_794 rfl 0 rfl ?_
  refine q_iload_n (pc := 795) X dL_law_795 rfl 3 rfl ?_
  refine q_iconst (v := (1 : Int32)) (pc := 796) X dL_law_796 (by decide) ?_
  refine q_iadd (pc := 797) X dL_law_797 ?_
  refine q_sld (pc := 798) X (nk1 k) (by omega) dL_law_798 ?_
  refine q_aload_n (pc := 799) X dL_law_799 rfl 0 rfl ?_
  refine q_iload_n (pc := 800) X dL_law_800 rfl 3 rfl ?_
  refine q_iconst (v := (2 : Int32)) (pc := 801) X dL_law_801 (by decide) ?_
  refine q_iadd (pc := 802) X dL_law_802 ?_
  refine q_sld (pc := 803) X (nk2 k) (by omega) dL_law_803 ?_
  refine q_aload_n (pc := 804) X dL_law_804 rfl 0 rfl ?_
  refine q_iload_n (pc := 805) X dL_law_805 rfl 3 rfl ?_
  refine q_iconst (v := (3 : Int32)) (pc := 806) X dL_law_806 (by decide) ?_
  refine q_iadd (pc := 807) X dL_law_807 ?_
  refine q_sld (pc := 808) X (nk3 k) (by omega) dL_law_808 ?_
  refine q_aload_n (pc := 809) X dL_law_809 rfl 0 rfl ?_
  refine q_iload_n (pc := 810) X dL_law_810 rfl 3 rfl ?_
  refine q_iconst (v := (4 : Int32)) (pc := 811) X dL_law_811 (by decide) ?_
  refine q_iadd (pc := 812) X dL_law_812 ?_
  refine q_sld (pc := 813) X (nk4 k) (by omega) dL_law_813 ?_
  refine q_aload_n (pc := 814) X dL_law_814 rfl 0 rfl ?_
  refine q_iload_n (pc := 815) X dL_law_815 rfl 3 rfl ?_
  refine q_iconst (v := (5 : Int32)) (pc := 816) X dL_law_816 (by decide) ?_
  refine q_iadd (pc := 817) X dL_law_817 ?_
  refine q_sld (pc := 818) X (nk5 k) (by omega) dL_law_818 ?_
  refine q_callCL (pc := 819) (As := [.int (xs (k + 1)), .int (xs (k + 2)), .int (xs (k + 3)), .int (xs (k + 4)), .int (xs (k + 5))]) (rest := []) X miL_X11_leftOdds imL_X11_leftOdds seL_X11_leftOdds (by decide) rfl clX11 ml_L_82 (cX11_leftOdds_ct z a 0 (xs (k + 1)) (xs (k + 2)) (xs (k + 3)) (xs (k + 4)) (xs (k + 5)) mc mc2 r hC) rfl rfl (Nat.le_of_ble_eq_true rfl) ⟨rfl, rfl, by decide, by decide, by decide, by decide⟩ dL_law_819 ?_
  refine q_aload_n (pc := 822) X dL_law_822 rfl 2 rfl ?_
  refine q_aload_n (pc := 823) X dL_law_823 rfl 0 rfl ?_
  refine q_iload_n (pc := 824) X dL_law_824 rfl 3 rfl ?_
  refine q_iconst (v := (1 : Int32)) (pc := 825) X dL_law_825 (by decide) ?_
  refine q_iadd (pc := 826) X dL_law_826 ?_
  refine q_sld (pc := 827) X (nk1 k) (by omega) dL_law_827 ?_
  refine q_aload_n (pc := 828) X dL_law_828 rfl 0 rfl ?_
  refine q_iload_n (pc := 829) X dL_law_829 rfl 3 rfl ?_
  refine q_iconst (v := (2 : Int32)) (pc := 830) X dL_law_830 (by decide) ?_
  refine q_iadd (pc := 831) X dL_law_831 ?_
  refine q_sld (pc := 832) X (nk2 k) (by omega) dL_law_832 ?_
  refine q_aload_n (pc := 833) X dL_law_833 rfl 0 rfl ?_
  refine q_iload_n (pc := 834) X dL_law_834 rfl 3 rfl ?_
  refine q_iconst (v := (3 : Int32)) (pc := 835) X dL_law_835 (by decide) ?_
  refine q_iadd (pc := 836) X dL_law_836 ?_
  refine q_sld (pc := 837) X (nk3 k) (by omega) dL_law_837 ?_
  refine q_aload_n (pc := 838) X dL_law_838 rfl 0 rfl ?_
  refine q_iload_n (pc := 839) X dL_law_839 rfl 3 rfl ?_
  refine q_iconst (v := (4 : Int32)) (pc := 840) X dL_law_840 (by decide) ?_
  refine q_iadd (pc := 841) X dL_law_841 ?_
  refine q_sld (pc := 842) X (nk4 k) (by omega) dL_law_842 ?_
  refine q_aload_n (pc := 843) X dL_law_843 rfl 0 rfl ?_
  refine q_iload_n (pc := 844) X dL_law_844 rfl 3 rfl ?_
  refine q_iconst (v := (5 : Int32)) (pc := 845) X dL_law_845 (by decide) ?_
  refine q_iadd (pc := 846) X dL_law_846 ?_
  refine q_sld (pc := 847) X (nk5 k) (by omega) dL_law_847 ?_
  refine q_callML (pc := 848) (As := [.int (xs (k + 1)), .int (xs (k + 2)), .int (xs (k + 3)), .int (xs (k + 4)), .int (xs (k + 5))]) (rest := [.long r]) X miL_X12_leftOdds imL_X12_leftOdds seL_X12_leftOdds (by decide) rfl clX12 ml_L_85 (cX12_leftOdds_ct z b 0 (xs (k + 1)) (xs (k + 2)) (xs (k + 3)) (xs (k + 4)) (xs (k + 5)) mm mm2 r hM) rfl rfl (Nat.le_of_ble_eq_true rfl) ⟨rfl, rfl, by decide, by decide, by decide, by decide⟩ dL_law_848 ?_
  exact q_lcmp_eq (pc := 851) (tgt := 1617) X dL_law_851 dL_law_852 (by decide) rfl next
theorem ml_L_86 : Cond.methodLink R_law 86 yX11_boat ∈ GT := gt_mem (i := 893) (by decide +kernel) (by decide +kernel)
theorem imL_X11_boat : Cond.instanceMethod yX11_boat ∈ GT := gt_mem (i := 894) (by decide +kernel) (by decide +kernel)
theorem seL_X11_boat : Cond.selects yX11_boat.cls yX11_boat yX11_boat ∈ GT := gt_mem (i := 895) (by decide +kernel) (by decide +kernel)
theorem miL_X11_boat : Mi yX11_boat cX11_boat 4 (some .long) 3 := ⟨gt_mem (i := 896) (by decide +kernel) (by decide +kernel), gt_mem (i := 85) (by decide +kernel) (by decide +kernel), by decide +kernel, by decide +kernel, by decide +kernel, by decide +kernel⟩
theorem ml_L_89 : Cond.methodLink R_law 89 yX12_boat ∈ GT := gt_mem (i := 1529) (by decide +kernel) (by decide +kernel)
theorem imL_X12_boat : Cond.instanceMethod yX12_boat ∈ GT := gt_mem (i := 1530) (by decide +kernel) (by decide +kernel)
theorem seL_X12_boat : Cond.selects yX12_boat.cls yX12_boat yX12_boat ∈ GT := gt_mem (i := 1531) (by decide +kernel) (by decide +kernel)
theorem miL_X12_boat : Mi yX12_boat cX12_boat 6 (some .long) 3 := ⟨gt_mem (i := 1532) (by decide +kernel) (by decide +kernel), gt_mem (i := 97) (by decide +kernel) (by decide +kernel), by decide +kernel, by decide +kernel, by decide +kernel, by decide +kernel⟩
set_option maxHeartbeats 4000000 in
set_option maxRecDepth 100000 in
theorem law_c16 {z : Zx} {x : Lx} {sb : Nat} {a b : Nat → Nat} {mc mm mc2 mm2 : Mem} {L k : Nat} {xs : Nat → Int32} {r : Int64} (X : OK2 z x L xs) (hsb : x.2.2.2.2.2.2.2 = sb) (hk : k + 6 ≤ L) (hC : fX11_boat 0 (xs (k + 1)) (xs (k + 2)) (xs (k + 3)) mc = some (r, mc2)) (hM : fX12_boat 0 (xs (k + 1)) (xs (k + 2)) (xs (k + 3)) mm = some (r, mm2)) (next : G2 z x 108 4296 a b 17 mc2 mm2 1617 [(0, .ref sb), (1, .ref (a 0)), (2, .ref (b 0)), (3, .int (nI k))] []) : G2 z x 108 4296 a b 17 mc mm 857 [(0, .ref sb), (1, .ref (a 0)), (2, .ref (b 0)), (3, .int (nI k))] [] := by
  subst hsb
  refine q_aload_n (pc := 857) X dL_law_857 rfl 1 rfl ?_
  refine q_aload_n (pc := 858) X dL_law_858 rfl 0 rfl ?_
  refine q_iload_n (pc := 859) X dL_law_859 rfl 3 rfl ?_
  refine q_iconst (v := (1 : Int32)) (pc := 860) X dL_law_860 (by decide) ?_
  refine q_iadd (pc := 861) X dL_law_861 ?_
  refine q_sld (pc := 862) X (nk1 k) (by omega) dL_law_862 ?_
  refine q_aload_n (pc := 863) X dL_law_863 rfl 0 rfl ?_
  refine q_iload_n (pc := 864) X dL_law_864 rfl 3 rfl ?_
  refine q_iconst (v := (2 : Int32)) (pc := 865) X dL_law_865 (by decide) ?_
  refine q_iadd (pc := 866) X dL_law_866 ?_
  refine q_sld (pc := 867) X (nk2 k) (by omega) dL_law_867 ?_
  refine q_aload_n (pc := 868) X dL_law_868 rfl 0 rfl ?_
  refine q_iload_n (pc := 869) X dL_law_869 rfl 3 rfl ?_
  refine q_iconst (v := (3 : Int32)) (pc := 870) X dL_law_870 (by decide) ?_
  refine q_iadd (pc := 871) X dL_law_871 ?_
  refine q_sld (pc := 872) X (nk3 k) (by omega) dL_law_872 ?_
  refine q_callCL (pc := 873) (As := [.int (xs (k + 1)), .int (xs (k + 2)), .int (xs (k + 3))]) (rest := []) X miL_X11_boat imL_X11_boat seL_X11_boat (by decide) rfl clX11 ml_L_86 (cX11_boat_ct z a 0 (xs (k + 1)) (xs (k + 2)) (xs (k + 3)) mc mc2 r hC) rfl rfl (Nat.le_of_ble_eq_true rfl) ⟨rfl, rfl, by decide, by decide, by decide, by decide⟩ dL_law_873 ?_
  refine q_aload_n (pc := 876) X dL_law_876 rfl 2 rfl ?_
  refine q_aload_n (pc := 877) X dL_law_877 rfl 0 rfl ?_
  refine q_iload_n (pc := 878) X dL_law_878 rfl 3 rfl ?_
  refine q_iconst (v := (1 : Int32)) (pc := 879) X dL_law_879 (by decide) ?_
  refine q_iadd (pc := 880) X dL_law_880 ?_
  refine q_sld (pc := 881) X (nk1 k) (by omega) dL_law_881 ?_
  refine q_aload_n (pc := 882) X dL_law_882 rfl 0 rfl ?_
  refine q_iload_n (pc := 883) X dL_law_883 rfl 3 rfl ?_
  refine q_iconst (v := (2 : Int32)) (pc := 884) X dL_law_884 (by decide) ?_
  refine q_iadd (pc := 885) X dL_law_885 ?_
  refine q_sld (pc := 886) X (nk2 k) (by omega) dL_law_886 ?_
  refine q_aload_n (pc := 887) X dL_law_887 rfl 0 rfl ?_
  refine q_iload_n (pc := 888) X dL_law_888 rfl 3 rfl ?_
  refine q_iconst (v := (3 : Int32)) (pc := 889) X dL_law_889 (by decide) ?_
  refine q_iadd (pc := 890) X dL_law_890 ?_
  refine q_sld (pc := 891) X (nk3 k) (by omega) dL_law_891 ?_
  refine q_callML (pc := 892) (As := [.int (xs (k + 1)), .int (xs (k + 2)), .int (xs (k + 3))]) (rest := [.long r]) X miL_X12_boat imL_X12_boat seL_X12_boat (by decide) rfl clX12 ml_L_89 (cX12_boat_ct z b 0 (xs (k + 1)) (xs (k + 2)) (xs (k + 3)) mm mm2 r hM) rfl rfl (Nat.le_of_ble_eq_true rfl) ⟨rfl, rfl, by decide, by decide, by decide, by decide⟩ dL_law_892 ?_
  exact q_lcmp_eq (pc := 895) (tgt := 1617) X dL_law_895 dL_law_896 (by decide) rfl next
theorem ml_L_90 : Cond.methodLink R_law 90 yX11_thought ∈ GT := gt_mem (i := 901) (by decide +kernel) (by decide +kernel)
theorem imL_X11_thought : Cond.instanceMethod yX11_thought ∈ GT := gt_mem (i := 902) (by decide +kernel) (by decide +kernel)
theorem seL_X11_thought : Cond.selects yX11_thought.cls yX11_thought yX11_thought ∈ GT := gt_mem (i := 903) (by decide +kernel) (by decide +kernel)
theorem miL_X11_thought : Mi yX11_thought cX11_thought 4 (some .long) 3 := ⟨gt_mem (i := 904) (by decide +kernel) (by decide +kernel), gt_mem (i := 85) (by decide +kernel) (by decide +kernel), by decide +kernel, by decide +kernel, by decide +kernel, by decide +kernel⟩
theorem ml_L_93 : Cond.methodLink R_law 93 yX12_thought ∈ GT := gt_mem (i := 1533) (by decide +kernel) (by decide +kernel)
theorem imL_X12_thought : Cond.instanceMethod yX12_thought ∈ GT := gt_mem (i := 1534) (by decide +kernel) (by decide +kernel)
theorem seL_X12_thought : Cond.selects yX12_thought.cls yX12_thought yX12_thought ∈ GT := gt_mem (i := 1535) (by decide +kernel) (by decide +kernel)
theorem miL_X12_thought : Mi yX12_thought cX12_thought 4 (some .long) 3 := ⟨gt_mem (i := 1536) (by decide +kernel) (by decide +kernel), gt_mem (i := 97) (by decide +kernel) (by decide +kernel), by decide +kernel, by decide +kernel, by decide +kernel, by decide +kernel⟩
set_option maxHeartbeats 4000000 in
set_option maxRecDepth 100000 in
theorem law_c17 {z : Zx} {x : Lx} {sb : Nat} {a b : Nat → Nat} {mc mm mm2 : Mem} {L k : Nat} {xs : Nat → Int32} {r : Int64} (X : OK2 z x L xs) (hsb : x.2.2.2.2.2.2.2 = sb) (hk : k + 6 ≤ L) (hC : fX11_thought 0 (xs (k + 1)) (xs (k + 2)) (xs (k + 3)) = some r) (hM : fX12_thought 0 (xs (k + 1)) (xs (k + 2)) (xs (k + 3)) mm = some (r, mm2)) (next : G2 z x 108 4296 a b 17 mc mm2 1617 [(0, .ref sb), (1, .ref (a 0)), (2, .ref (b 0)), (3, .int (nI k))] []) : G2 z x 108 4296 a b 17 mc mm 901 [(0, .ref sb), (1, .ref (a 0)), (2, .ref (b 0)), (3, .int (nI k))] [] := by
  subst hsb
  refine q_aload_n (pc := 901) X dL_law_901 rfl 1 rfl ?_
  refine q_aload_n (pc := 902) X dL_law_902 rfl 0 rfl ?_
  refine q_iload_n (pc := 903) X dL_law_903 rfl 3 rfl ?_
  refine q_iconst (v := (1 : Int32)) (pc := 904) X dL_law_904 (by decide) ?_
  refine q_iadd (pc := 905) X dL_law_905 ?_
  refine q_sld (pc := 906) X (nk1 k) (by omega) dL_law_906 ?_
  refine q_aload_n (pc := 907) X dL_law_907 rfl 0 rfl ?_
  refine q_iload_n (pc := 908) X dL_law_908 rfl 3 rfl ?_
  refine q_iconst (v := (2 : Int32)) (pc := 909) X dL_law_909 (by decide) ?_
  refine q_iadd (pc := 910) X dL_law_910 ?_
  refine q_sld (pc := 911) X (nk2 k) (by omega) dL_law_911 ?_
  refine q_aload_n (pc := 912) X dL_law_912 rfl 0 rfl ?_
  refine q_iload_n (pc := 913) X dL_law_913 rfl 3 rfl ?_
  refine q_iconst (v := (3 : Int32)) (pc := 914) X dL_law_914 (by decide) ?_
  refine q_iadd (pc := 915) X dL_law_915 ?_
  refine q_sld (pc := 916) X (nk3 k) (by omega) dL_law_916 ?_
  refine q_callCL (pc := 917) (As := [.int (xs (k + 1)), .int (xs (k + 2)), .int (xs (k + 3))]) (rest := []) X miL_X11_thought imL_X11_thought seL_X11_thought (by decide) rfl clX11 ml_L_90 (cX11_thought_ct z a 0 (xs (k + 1)) (xs (k + 2)) (xs (k + 3)) mc r hC) rfl rfl (Nat.le_of_ble_eq_true rfl) ⟨rfl, rfl, by decide, by decide, by decide, by decide⟩ dL_law_917 ?_
  refine q_aload_n (pc := 920) X dL_law_920 rfl 2 rfl ?_
  refine q_aload_n (pc := 921) X dL_law_921 rfl 0 rfl ?_
  refine q_iload_n (pc := 922) X dL_law_922 rfl 3 rfl ?_
  refine q_iconst (v := (1 : Int32)) (pc := 923) X dL_law_923 (by decide) ?_
  refine q_iadd (pc := 924) X dL_law_924 ?_
  refine q_sld (pc := 925) X (nk1 k) (by omega) dL_law_925 ?_
  refine q_aload_n (pc := 926) X dL_law_926 rfl 0 rfl ?_
  refine q_iload_n (pc := 927) X dL_law_927 rfl 3 rfl ?_
  refine q_iconst (v := (2 : Int32)) (pc := 928) X dL_law_928 (by decide) ?_
  refine q_iadd (pc := 929) X dL_law_929 ?_
  refine q_sld (pc := 930) X (nk2 k) (by omega) dL_law_930 ?_
  refine q_aload_n (pc := 931) X dL_law_931 rfl 0 rfl ?_
  refine q_iload_n (pc := 932) X dL_law_932 rfl 3 rfl ?_
  refine q_iconst (v := (3 : Int32)) (pc := 933) X dL_law_933 (by decide) ?_
  refine q_iadd (pc := 934) X dL_law_934 ?_
  refine q_sld (pc := 935) X (nk3 k) (by omega) dL_law_935 ?_
  refine q_callML (pc := 936) (As := [.int (xs (k + 1)), .int (xs (k + 2)), .int (xs (k + 3))]) (rest := [.long r]) X miL_X12_thought imL_X12_thought seL_X12_thought (by decide) rfl clX12 ml_L_93 (cX12_thought_ct z b 0 (xs (k + 1)) (xs (k + 2)) (xs (k + 3)) mm mm2 r hM) rfl rfl (Nat.le_of_ble_eq_true rfl) ⟨rfl, rfl, by decide, by decide, by decide, by decide⟩ dL_law_936 ?_
  exact q_lcmp_eq (pc := 939) (tgt := 1617) X dL_law_939 dL_law_940 (by decide) rfl next
theorem ml_L_94 : Cond.methodLink R_law 94 yX11_seemed ∈ GT := gt_mem (i := 905) (by decide +kernel) (by decide +kernel)
theorem imL_X11_seemed : Cond.instanceMethod yX11_seemed ∈ GT := gt_mem (i := 906) (by decide +kernel) (by decide +kernel)
theorem seL_X11_seemed : Cond.selects yX11_seemed.cls yX11_seemed yX11_seemed ∈ GT := gt_mem (i := 907) (by decide +kernel) (by decide +kernel)
theorem miL_X11_seemed : Mi yX11_seemed cX11_seemed 4 (some .long) 3 := ⟨gt_mem (i := 908) (by decide +kernel) (by decide +kernel), gt_mem (i := 85) (by decide +kernel) (by decide +kernel), by decide +kernel, by decide +kernel, by decide +kernel, by decide +kernel⟩
theorem ml_L_97 : Cond.methodLink R_law 97 yX12_seemed ∈ GT := gt_mem (i := 1542) (by decide +kernel) (by decide +kernel)
theorem imL_X12_seemed : Cond.instanceMethod yX12_seemed ∈ GT := gt_mem (i := 1543) (by decide +kernel) (by decide +kernel)
theorem seL_X12_seemed : Cond.selects yX12_seemed.cls yX12_seemed yX12_seemed ∈ GT := gt_mem (i := 1544) (by decide +kernel) (by decide +kernel)
theorem miL_X12_seemed : Mi yX12_seemed cX12_seemed 4 (some .long) 3 := ⟨gt_mem (i := 1545) (by decide +kernel) (by decide +kernel), gt_mem (i := 97) (by decide +kernel) (by decide +kernel), by decide +kernel, by decide +kernel, by decide +kernel, by decide +kernel⟩
set_option maxHeartbeats 4000000 in
set_option maxRecDepth 100000 in
theorem law_c18 {z : Zx} {x : Lx} {sb : Nat} {a b : Nat → Nat} {mc mm mm2 : Mem} {L k : Nat} {xs : Nat → Int32} {r : Int64} (X : OK2 z x L xs) (hsb : x.2.2.2.2.2.2.2 = sb) (hk : k + 6 ≤ L) (hC : fX11_seemed 0 (xs (k + 1)) (xs (k + 2)) (xs (k + 3)) mc = some r) (hM : fX12_seemed 0 (xs (k + 1)) (xs (k + 2)) (xs (k + 3)) mm = some (r, mm2)) (next : G2 z x 108 4296 a b 17 mc mm2 1617 [(0, .ref sb), (1, .ref (a 0)), (2, .ref (b 0)), (3, .int (nI k))] []) : G2 z x 108 4296 a b 17 mc mm 945 [(0, .ref sb), (1, .ref (a 0)), (2, .ref (b 0)), (3, .int (nI k))] [] := by
  subst hsb
  refine q_aload_n (pc := 945) X dL_law_945 rfl 1 rfl ?_
  refine q_aload_n (pc := 946) X dL_law_946 rfl 0 rfl ?_
  refine q_iload_n (pc := 947) X dL_law_947 rfl 3 rfl ?_
  refine q_iconst (v := (1 : Int32)) (pc := 948) X dL_law_948 (by decide) ?_
  refine q_iadd (pc := 949) X dL_law_949 ?_
  refine q_sld (pc := 950) X (nk1 k) (by omega) dL_law_950 ?_
  refine q_aload_n (pc := 951) X dL_law_951 rfl 0 rfl ?_
  refine q_iload_n (pc := 952) X dL_law_952 rfl 3 rfl ?_
  refine q_iconst (v := (2 : Int32)) (pc := 953) X dL_law_953 (by decide) ?_
  refine q_iadd (pc := 954) X dL_law_954 ?_
  refine q_sld (pc := 955) X (nk2 k) (by omega) dL_law_955 ?_
  refine q_aload_n (pc := 956) X dL_law_956 rfl 0 rfl ?_
  refine q_iload_n (pc := 957) X dL_law_957 rfl 3 rfl ?_
  refine q_iconst (v := (3 : Int32)) (pc := 958) X dL_law_958 (by decide) ?_
  refine q_iadd (pc := 959) X dL_law_959 ?_
  refine q_sld (pc := 960) X (nk3 k) (by omega) dL_law_960 ?_
  refine q_callCL (pc := 961) (As := [.int (xs (k + 1)), .int (xs (k + 2)), .int (xs (k + 3))]) (rest := []) X miL_X11_seemed imL_X11_seemed seL_X11_seemed (by decide) rfl clX11 ml_L_94 (cX11_seemed_ct z a 0 (xs (k + 1)) (xs (k + 2)) (xs (k + 3)) mc r hC) rfl rfl (Nat.le_of_ble_eq_true rfl) ⟨rfl, rfl, by decide, by decide, by decide, by decide⟩ dL_law_961 ?_
  refine q_aload_n (pc := 964) X dL_law_964 rfl 2 rfl ?_
  refine q_aload_n (pc := 965) X dL_law_965 rfl 0 rfl ?_
  refine q_iload_n (pc := 966) X dL_law_966 rfl 3 rfl ?_
  refine q_iconst (v := (1 : Int32)) (pc := 967) X dL_law_967 (by decide) ?_
  refine q_iadd (pc := 968) X dL_law_968 ?_
  refine q_sld (pc := 969) X (nk1 k) (by omega) dL_law_969 ?_
  refine q_aload_n (pc := 970) X dL_law_970 rfl 0 rfl ?_
  refine q_iload_n (pc := 971) X dL_law_971 rfl 3 rfl ?_
  refine q_iconst (v := (2 : Int32)) (pc := 972) X dL_law_972 (by decide) ?_
  refine q_iadd (pc := 973) X dL_law_973 ?_
  refine q_sld (pc := 974) X (nk2 k) (by omega) dL_law_974 ?_
  refine q_aload_n (pc := 975) X dL_law_975 rfl 0 rfl ?_
  refine q_iload_n (pc := 976) X dL_law_976 rfl 3 rfl ?_
  refine q_iconst (v := (3 : Int32)) (pc := 977) X dL_law_977 (by decide) ?_
  refine q_iadd (pc := 978) X dL_law_978 ?_
  refine q_sld (pc := 979) X (nk3 k) (by omega) dL_law_979 ?_
  refine q_callML (pc := 980) (As := [.int (xs (k + 1)), .int (xs (k + 2)), .int (xs (k + 3))]) (rest := [.long r]) X miL_X12_seemed imL_X12_seemed seL_X12_seemed (by decide) rfl clX12 ml_L_97 (cX12_seemed_ct z b 0 (xs (k + 1)) (xs (k + 2)) (xs (k + 3)) mm mm2 r hM) rfl rfl (Nat.le_of_ble_eq_true rfl) ⟨rfl, rfl, by decide, by decide, by decide, by decide⟩ dL_law_980 ?_
  exact q_lcmp_eq (pc := 983) (tgt := 1617) X dL_law_983 dL_law_984 (by decide) rfl next
theorem ml_L_98 : Cond.methodLink R_law 98 yX11_deep ∈ GT := gt_mem (i := 916) (by decide +kernel) (by decide +kernel)
theorem imL_X11_deep : Cond.instanceMethod yX11_deep ∈ GT := gt_mem (i := 917) (by decide +kernel) (by decide +kernel)
theorem seL_X11_deep : Cond.selects yX11_deep.cls yX11_deep yX11_deep ∈ GT := gt_mem (i := 918) (by decide +kernel) (by decide +kernel)
theorem miL_X11_deep : Mi yX11_deep cX11_deep 2 (some .long) 1 := ⟨gt_mem (i := 919) (by decide +kernel) (by decide +kernel), gt_mem (i := 85) (by decide +kernel) (by decide +kernel), by decide +kernel, by decide +kernel, by decide +kernel, by decide +kernel⟩
theorem ml_L_101 : Cond.methodLink R_law 101 yX12_deep ∈ GT := gt_mem (i := 1555) (by decide +kernel) (by decide +kernel)
theorem imL_X12_deep : Cond.instanceMethod yX12_deep ∈ GT := gt_mem (i := 1556) (by decide +kernel) (by decide +kernel)
theorem seL_X12_deep : Cond.selects yX12_deep.cls yX12_deep yX12_deep ∈ GT := gt_mem (i := 1557) (by decide +kernel) (by decide +kernel)
theorem miL_X12_deep : Mi yX12_deep cX12_deep 2 (some .long) 1 := ⟨gt_mem (i := 1558) (by decide +kernel) (by decide +kernel), gt_mem (i := 97) (by decide +kernel) (by decide +kernel), by decide +kernel, by decide +kernel, by decide +kernel, by decide +kernel⟩
set_option maxHeartbeats 4000000 in
set_option maxRecDepth 100000 in
theorem law_c19 {z : Zx} {x : Lx} {sb : Nat} {a b : Nat → Nat} {mc mm mm2 : Mem} {L k : Nat} {xs : Nat → Int32} {r : Int64} (X : OK2 z x L xs) (hsb : x.2.2.2.2.2.2.2 = sb) (hk : k + 6 ≤ L) (hC : fX11_deep 0 (xs (k + 1)) mc = some r) (hM : fX12_deep 0 (xs (k + 1)) mm = some (r, mm2)) (next : G2 z x 108 4296 a b 17 mc mm2 1617 [(0, .ref sb), (1, .ref (a 0)), (2, .ref (b 0)), (3, .int (nI k))] []) : G2 z x 108 4296 a b 17 mc mm 989 [(0, .ref sb), (1, .ref (a 0)), (2, .ref (b 0)), (3, .int (nI k))] [] := by
  subst hsb
  refine q_aload_n (pc := 989) X dL_law_989 rfl 1 rfl ?_
  refine q_aload_n (pc := 990) X dL_law_990 rfl 0 rfl ?_
  refine q_iload_n (pc := 991) X dL_law_991 rfl 3 rfl ?_
  refine q_iconst (v := (1 : Int32)) (pc := 992) X dL_law_992 (by decide) ?_
  refine q_iadd (pc := 993) X dL_law_993 ?_
  refine q_sld (pc := 994) X (nk1 k) (by omega) dL_law_994 ?_
  refine q_callCL (pc := 995) (As := [.int (xs (k + 1))]) (rest := []) X miL_X11_deep imL_X11_deep seL_X11_deep (by decide) rfl clX11 ml_L_98 (cX11_deep_ct z a 0 (xs (k + 1)) mc r hC) rfl rfl (Nat.le_of_ble_eq_true rfl) ⟨rfl, rfl, by decide, by decide, by decide, by decide⟩ dL_law_995 ?_
  refine q_aload_n (pc := 998) X dL_law_998 rfl 2 rfl ?_
  refine q_aload_n (pc := 999) X dL_law_999 rfl 0 rfl ?_
  refine q_iload_n (pc := 1000) X dL_law_1000 rfl 3 rfl ?_
  refine q_iconst (v := (1 : Int32)) (pc := 1001) X dL_law_1001 (by decide) ?_
  refine q_iadd (pc := 1002) X dL_law_1002 ?_
  refine q_sld (pc := 1003) X (nk1 k) (by omega) dL_law_1003 ?_
  refine q_callML (pc := 1004) (As := [.int (xs (k + 1))]) (rest := [.long r]) X miL_X12_deep imL_X12_deep seL_X12_deep (by decide) rfl clX12 ml_L_101 (cX12_deep_ct z b 0 (xs (k + 1)) mm mm2 r hM) rfl rfl (Nat.le_of_ble_eq_true rfl) ⟨rfl, rfl, by decide, by decide, by decide, by decide⟩ dL_law_1004 ?_
  exact q_lcmp_eq (pc := 1007) (tgt := 1617) X dL_law_1007 dL_law_1008 (by decide) rfl next
theorem ml_L_102 : Cond.methodLink R_law 102 yX11_was ∈ GT := gt_mem (i := 925) (by decide +kernel) (by decide +kernel)
theorem imL_X11_was : Cond.instanceMethod yX11_was ∈ GT := gt_mem (i := 926) (by decide +kernel) (by decide +kernel)
theorem seL_X11_was : Cond.selects yX11_was.cls yX11_was yX11_was ∈ GT := gt_mem (i := 927) (by decide +kernel) (by decide +kernel)
theorem miL_X11_was : Mi yX11_was cX11_was 5 (some .long) 4 := ⟨gt_mem (i := 928) (by decide +kernel) (by decide +kernel), gt_mem (i := 85) (by decide +kernel) (by decide +kernel), by decide +kernel, by decide +kernel, by decide +kernel, by decide +kernel⟩
theorem ml_L_106 : Cond.methodLink R_law 106 yX12_was ∈ GT := gt_mem (i := 1559) (by decide +kernel) (by decide +kernel)
theorem imL_X12_was : Cond.instanceMethod yX12_was ∈ GT := gt_mem (i := 1560) (by decide +kernel) (by decide +kernel)
theorem seL_X12_was : Cond.selects yX12_was.cls yX12_was yX12_was ∈ GT := gt_mem (i := 1561) (by decide +kernel) (by decide +kernel)
theorem miL_X12_was : Mi yX12_was cX12_was 6 (some .long) 4 := ⟨gt_mem (i := 1562) (by decide +kernel) (by decide +kernel), gt_mem (i := 97) (by decide +kernel) (by decide +kernel), by decide +kernel, by decide +kernel, by decide +kernel, by decide +kernel⟩
set_option maxHeartbeats 4000000 in
set_option maxRecDepth 100000 in
theorem law_c20 {z : Zx} {x : Lx} {sb : Nat} {a b : Nat → Nat} {mc mm mm2 : Mem} {L k : Nat} {xs : Nat → Int32} {r : Int64} (X : OK2 z x L xs) (hsb : x.2.2.2.2.2.2.2 = sb) (hk : k + 6 ≤ L) (hC : fX11_was 0 (xs (k + 1)) (xs (k + 2)) (xs (k + 3)) (xs (k + 4)) mc = some r) (hM : fX12_was 0 (xs (k + 1)) (xs (k + 2)) (xs (k + 3)) (xs (k + 4)) mm = some (r, mm2)) (next : G2 z x 108 4296 a b 17 mc mm2 1617 [(0, .ref sb), (1, .ref (a 0)), (2, .ref (b 0)), (3, .int (nI k))] []) : G2 z x 108 4296 a b 17 mc mm 1013 [(0, .ref sb), (1, .ref (a 0)), (2, .ref (b 0)), (3, .int (nI k))] [] := by
  subst hsb
  refine q_aload_n (pc := 1013) X dL_law_1013 rfl 1 rfl ?_
  refine q_aload_n (pc := 1014) X dL_law_1014 rfl 0 rfl ?_
  refine q_iload_n (pc := 1015) X dL_law_1015 rfl 3 rfl ?_
  refine q_iconst (v := (1 : Int32)) (pc := 1016) X dL_law_1016 (by decide) ?_
  refine q_iadd (pc := 1017) X dL_law_1017 ?_
  refine q_sld (pc := 1018) X (nk1 k) (by omega) dL_law_1018 ?_
  refine q_aload_n (pc := 1019) X dL_law_1019 rfl 0 rfl ?_
  refine q_iload_n (pc := 1020) X dL_law_1020 rfl 3 rfl ?_
  refine q_iconst (v := (2 : Int32)) (pc := 1021) X dL_law_1021 (by decide) ?_
  refine q_iadd (pc := 1022) X dL_law_1022 ?_
  refine q_sld (pc := 1023) X (nk2 k) (by omega) dL_law_1023 ?_
  refine q_aload_n (pc := 1024) X dL_law_1024 rfl 0 rfl ?_
  refine q_iload_n (pc := 1025) X dL_law_1025 rfl 3 rfl ?_
  refine q_iconst (v := (3 : Int32)) (pc := 1026) X dL_law_1026 (by decide) ?_
  refine q_iadd (pc := 1027) X dL_law_1027 ?_
  refine q_sld (pc := 1028) X (nk3 k) (by omega) dL_law_1028 ?_
  refine q_aload_n (pc := 1029) X dL_law_1029 rfl 0 rfl ?_
  refine q_iload_n (pc := 1030) X dL_law_1030 rfl 3 rfl ?_
  refine q_iconst (v := (4 : Int32)) (pc := 1031) X dL_law_1031 (by decide) ?_
  refine q_iadd (pc := 1032) X dL_law_1032 ?_
  refine q_sld (pc := 1033) X (nk4 k) (by omega) dL_law_1033 ?_
  refine q_callCL (pc := 1034) (As := [.int (xs (k + 1)), .int (xs (k + 2)), .int (xs (k + 3)), .int (xs (k + 4))]) (rest := []) X miL_X11_was imL_X11_was seL_X11_was (by decide) rfl clX11 ml_L_102 (cX11_was_ct z a 0 (xs (k + 1)) (xs (k + 2)) (xs (k + 3)) (xs (k + 4)) mc r hC) rfl rfl (Nat.le_of_ble_eq_true rfl) ⟨rfl, rfl, by decide, by decide, by decide, by decide⟩ dL_law_1034 ?_
  refine q_aload_n (pc := 1037) X dL_law_1037 rfl 2 rfl ?_
  refine q_aload_n (pc := 1038) X dL_law_1038 rfl 0 rfl ?_
  refine q_iload_n (pc := 1039) X dL_law_1039 rfl 3 rfl ?_
  refine q_iconst (v := (1 : Int32)) (pc := 1040) X dL_law_1040 (by decide) ?_
  refine q_iadd (pc := 1041) X dL_law_1041 ?_
  refine q_sld (pc := 1042) X (nk1 k) (by omega) dL_law_1042 ?_
  refine q_aload_n (pc := 1043) X dL_law_1043 rfl 0 rfl ?_
  refine q_iload_n (pc := 1044) X dL_law_1044 rfl 3 rfl ?_
  refine q_iconst (v := (2 : Int32)) (pc := 1045) X dL_law_1045 (by decide) ?_
  refine q_iadd (pc := 1046) X dL_law_1046 ?_
  refine q_sld (pc := 1047) X (nk2 k) (by omega) dL_law_1047 ?_
  refine q_aload_n (pc := 1048) X dL_law_1048 rfl 0 rfl ?_
  refine q_iload_n (pc := 1049) X dL_law_1049 rfl 3 rfl ?_
  refine q_iconst (v := (3 : Int32)) (pc := 1050) X dL_law_1050 (by decide) ?_
  refine q_iadd (pc := 1051) X dL_law_1051 ?_
  refine q_sld (pc := 1052) X (nk3 k) (by omega) dL_law_1052 ?_
  refine q_aload_n (pc := 1053) X dL_law_1053 rfl 0 rfl ?_
  refine q_iload_n (pc := 1054) X dL_law_1054 rfl 3 rfl ?_
  refine q_iconst (v := (4 : Int32)) (pc := 1055) X dL_law_1055 (by decide) ?_
  refine q_iadd (pc := 1056) X dL_law_1056 ?_
  refine q_sld (pc := 1057) X (nk4 k) (by omega) dL_law_1057 ?_
  refine q_callML (pc := 1058) (As := [.int (xs (k + 1)), .int (xs (k + 2)), .int (xs (k + 3)), .int (xs (k + 4))]) (rest := [.long r]) X miL_X12_was imL_X12_was seL_X12_was (by decide) rfl clX12 ml_L_106 (cX12_was_ct z b 0 (xs (k + 1)) (xs (k + 2)) (xs (k + 3)) (xs (k + 4)) mm mm2 r hM) rfl rfl (Nat.le_of_ble_eq_true rfl) ⟨rfl, rfl, by decide, by decide, by decide, by decide⟩ dL_law_1058 ?_
  exact q_lcmp_eq (pc := 1061) (tgt := 1617) X dL_law_1061 dL_law_1062 (by decide) rfl next
theorem ml_L_107 : Cond.methodLink R_law 107 yX11_bang ∈ GT := gt_mem (i := 930) (by decide +kernel) (by decide +kernel)
theorem imL_X11_bang : Cond.instanceMethod yX11_bang ∈ GT := gt_mem (i := 931) (by decide +kernel) (by decide +kernel)
theorem seL_X11_bang : Cond.selects yX11_bang.cls yX11_bang yX11_bang ∈ GT := gt_mem (i := 932) (by decide +kernel) (by decide +kernel)
theorem miL_X11_bang : Mi yX11_bang cX11_bang 10 (some .long) 5 := ⟨gt_mem (i := 933) (by decide +kernel) (by decide +kernel), gt_mem (i := 85) (by decide +kernel) (by decide +kernel), by decide +kernel, by decide +kernel, by decide +kernel, by decide +kernel⟩
theorem ml_L_110 : Cond.methodLink R_law 110 yX12_bang ∈ GT := gt_mem (i := 1563) (by decide +kernel) (by decide +kernel)
theorem imL_X12_bang : Cond.instanceMethod yX12_bang ∈ GT := gt_mem (i := 1564) (by decide +kernel) (by decide +kernel)
theorem seL_X12_bang : Cond.selects yX12_bang.cls yX12_bang yX12_bang ∈ GT := gt_mem (i := 1565) (by decide +kernel) (by decide +kernel)
theorem miL_X12_bang : Mi yX12_bang cX12_bang 8 (some .long) 5 := ⟨gt_mem (i := 1566) (by decide +kernel) (by decide +kernel), gt_mem (i := 97) (by decide +kernel) (by decide +kernel), by decide +kernel, by decide +kernel, by decide +kernel, by decide +kernel⟩
set_option maxHeartbeats 4000000 in
set_option maxRecDepth 100000 in
theorem law_c21 {z : Zx} {x : Lx} {sb : Nat} {a b : Nat → Nat} {mc mm mm2 : Mem} {L k : Nat} {xs : Nat → Int32} {r : Int64} (X : OK2 z x L xs) (hsb : x.2.2.2.2.2.2.2 = sb) (hk : k + 6 ≤ L) (hC : fX11_bang 0 (xs (k + 1)) (xs (k + 2)) (xs (k + 3)) (xs (k + 4)) (xs (k + 5)) = some r) (hM : fX12_bang 0 (xs (k + 1)) (xs (k + 2)) (xs (k + 3)) (xs (k + 4)) (xs (k + 5)) mm = some (r, mm2)) (next : G2 z x 108 4296 a b 17 mc mm2 1617 [(0, .ref sb), (1, .ref (a 0)), (2, .ref (b 0)), (3, .int (nI k))] []) : G2 z x 108 4296 a b 17 mc mm 1067 [(0, .ref sb), (1, .ref (a 0)), (2, .ref (b 0)), (3, .int (nI k))] [] := by
  subst hsb
  refine q_aload_n (pc := 1067) X dL_law_1067 rfl 1 rfl ?_
  refine q_aload_n (pc := 1068) X dL_law_1068 rfl 0 rfl ?_
  refine q_iload_n (pc := 1069) X dL_law_1069 rfl 3 rfl ?_
  refine q_iconst (v := (1 : Int32)) (pc := 1070) X dL_law_1070 (by decide) ?_
  refine q_iadd (pc := 1071) X dL_law_1071 ?_
  refine q_sld (pc := 1072) X (nk1 k) (by omega) dL_law_1072 ?_
  refine q_aload_n (pc := 1073) X dL_law_1073 rfl 0 rfl ?_
  refine q_iload_n (pc := 1074) X dL_law_1074 rfl 3 rfl ?_
  refine q_iconst (v := (2 : Int32)) (pc := 1075) X dL_law_1075 (by decide) ?_
  refine q_iadd (pc := 1076) X dL_law_1076 ?_
  refine q_sld (pc := 1077) X (nk2 k) (by omega) dL_law_1077 ?_
  refine q_aload_n (pc := 1078) X dL_law_1078 rfl 0 rfl ?_
  refine q_iload_n (pc := 1079) X dL_law_1079 rfl 3 rfl ?_
  refine q_iconst (v := (3 : Int32)) (pc := 1080) X dL_law_1080 (by decide) ?_
  refine q_iadd (pc := 1081) X dL_law_1081 ?_
  refine q_sld (pc := 1082) X (nk3 k) (by omega) dL_law_1082 ?_
  refine q_aload_n (pc := 1083) X dL_law_1083 rfl 0 rfl ?_
  refine q_iload_n (pc := 1084) X dL_law_1084 rfl 3 rfl ?_
  refine q_iconst (v := (4 : Int32)) (pc := 1085) X dL_law_1085 (by decide) ?_
  refine q_iadd (pc := 1086) X dL_law_1086 ?_
  refine q_sld (pc := 1087) X (nk4 k) (by omega) dL_law_1087 ?_
  refine q_aload_n (pc := 1088) X dL_law_1088 rfl 0 rfl ?_
  refine q_iload_n (pc := 1089) X dL_law_1089 rfl 3 rfl ?_
  refine q_iconst (v := (5 : Int32)) (pc := 1090) X dL_law_1090 (by decide) ?_
  refine q_iadd (pc := 1091) X dL_law_1091 ?_
  refine q_sld (pc := 1092) X (nk5 k) (by omega) dL_law_1092 ?_
  refine q_callCL (pc := 1093) (As := [.int (xs (k + 1)), .int (xs (k + 2)), .int (xs (k + 3)), .int (xs (k + 4)), .int (xs (k + 5))]) (rest := []) X miL_X11_bang imL_X11_bang seL_X11_bang (by decide) rfl clX11 ml_L_107 (cX11_bang_ct z a 0 (xs (k + 1)) (xs (k + 2)) (xs (k + 3)) (xs (k + 4)) (xs (k + 5)) mc r hC) rfl rfl (Nat.le_of_ble_eq_true rfl) ⟨rfl, rfl, by decide, by decide, by decide, by decide⟩ dL_law_1093 ?_
  refine q_aload_n (pc := 1096) X dL_law_1096 rfl 2 rfl ?_
  refine q_aload_n (pc := 1097) X dL_law_1097 rfl 0 rfl ?_
  refine q_iload_n (pc := 1098) X dL_law_1098 rfl 3 rfl ?_
  refine q_iconst (v := (1 : Int32)) (pc := 1099) X dL_law_1099 (by decide) ?_
  refine q_iadd (pc := 1100) X dL_law_1100 ?_
  refine q_sld (pc := 1101) X (nk1 k) (by omega) dL_law_1101 ?_
  refine q_aload_n (pc := 1102) X dL_law_1102 rfl 0 rfl ?_
  refine q_iload_n (pc := 1103) X dL_law_1103 rfl 3 rfl ?_
  refine q_iconst (v := (2 : Int32)) (pc := 1104) X dL_law_1104 (by decide) ?_
  refine q_iadd (pc := 1105) X dL_law_1105 ?_
  refine q_sld (pc := 1106) X (nk2 k) (by omega) dL_law_1106 ?_
  refine q_aload_n (pc := 1107) X dL_law_1107 rfl 0 rfl ?_
  refine q_iload_n (pc := 1108) X dL_law_1108 rfl 3 rfl ?_
  refine q_iconst (v := (3 : Int32)) (pc := 1109) X dL_law_1109 (by decide) ?_
  refine q_iadd (pc := 1110) X dL_law_1110 ?_
  refine q_sld (pc := 1111) X (nk3 k) (by omega) dL_law_1111 ?_
  refine q_aload_n (pc := 1112) X dL_law_1112 rfl 0 rfl ?_
  refine q_iload_n (pc := 1113) X dL_law_1113 rfl 3 rfl ?_
  refine q_iconst (v := (4 : Int32)) (pc := 1114) X dL_law_1114 (by decide) ?_
  refine q_iadd (pc := 1115) X dL_law_1115 ?_
  refine q_sld (pc := 1116) X (nk4 k) (by omega) dL_law_1116 ?_
  refine q_aload_n (pc := 1117) X dL_law_1117 rfl 0 rfl ?_
  refine q_iload_n (pc := 1118) X dL_law_1118 rfl 3 rfl ?_
  refine q_iconst (v := (5 : Int32)) (pc := 1119) X dL_law_1119 (by decide) ?_
  refine q_iadd (pc := 1120) X dL_law_1120 ?_
  refine q_sld (pc := 1121) X (nk5 k) (by omega) dL_law_1121 ?_
  refine q_callML (pc := 1122) (As := [.int (xs (k + 1)), .int (xs (k + 2)), .int (xs (k + 3)), .int (xs (k + 4)), .int (xs (k + 5))]) (rest := [.long r]) X miL_X12_bang imL_X12_bang seL_X12_bang (by decide) rfl clX12 ml_L_110 (cX12_bang_ct z b 0 (xs (k + 1)) (xs (k + 2)) (xs (k + 3)) (xs (k + 4)) (xs (k + 5)) mm mm2 r hM) rfl rfl (Nat.le_of_ble_eq_true rfl) ⟨rfl, rfl, by decide, by decide, by decide, by decide⟩ dL_law_1122 ?_
  exact q_lcmp_eq (pc := 1125) (tgt := 1617) X dL_law_1125 dL_law_1126 (by decide) rfl next
theorem ml_L_111 : Cond.methodLink R_law 111 yX11_leave ∈ GT := gt_mem (i := 934) (by decide +kernel) (by decide +kernel)
theorem imL_X11_leave : Cond.instanceMethod yX11_leave ∈ GT := gt_mem (i := 935) (by decide +kernel) (by decide +kernel)
theorem seL_X11_leave : Cond.selects yX11_leave.cls yX11_leave yX11_leave ∈ GT := gt_mem (i := 936) (by decide +kernel) (by decide +kernel)
theorem miL_X11_leave : Mi yX11_leave cX11_leave 4 (some .long) 3 := ⟨gt_mem (i := 937) (by decide +kernel) (by decide +kernel), gt_mem (i := 85) (by decide +kernel) (by decide +kernel), by decide +kernel, by decide +kernel, by decide +kernel, by decide +kernel⟩
theorem ml_L_114 : Cond.methodLink R_law 114 yX12_leave ∈ GT := gt_mem (i := 1569) (by decide +kernel) (by decide +kernel)
theorem imL_X12_leave : Cond.instanceMethod yX12_leave ∈ GT := gt_mem (i := 1570) (by decide +kernel) (by decide +kernel)
theorem seL_X12_leave : Cond.selects yX12_leave.cls yX12_leave yX12_leave ∈ GT := gt_mem (i := 1571) (by decide +kernel) (by decide +kernel)
theorem miL_X12_leave : Mi yX12_leave cX12_leave 5 (some .long) 3 := ⟨gt_mem (i := 1572) (by decide +kernel) (by decide +kernel), gt_mem (i := 97) (by decide +kernel) (by decide +kernel), by decide +kernel, by decide +kernel, by decide +kernel, by decide +kernel⟩
set_option maxHeartbeats 4000000 in
set_option maxRecDepth 100000 in
theorem law_c22 {z : Zx} {x : Lx} {sb : Nat} {a b : Nat → Nat} {mc mm mm2 : Mem} {L k : Nat} {xs : Nat → Int32} {r : Int64} (X : OK2 z x L xs) (hsb : x.2.2.2.2.2.2.2 = sb) (hk : k + 6 ≤ L) (hC : fX11_leave 0 (xs (k + 1)) (xs (k + 2)) (xs (k + 3)) mc = some r) (hM : fX12_leave 0 (xs (k + 1)) (xs (k + 2)) (xs (k + 3)) mm = some (r, mm2)) (next : G2 z x 108 4296 a b 17 mc mm2 1617 [(0, .ref sb), (1, .ref (a 0)), (2, .ref (b 0)), (3, .int (nI k))] []) : G2 z x 108 4296 a b 17 mc mm 1131 [(0, .ref sb), (1, .ref (a 0)), (2, .ref (b 0)), (3, .int (nI k))] [] := by
  subst hsb
  refine q_aload_n (pc := 1131) X dL_law_1131 rfl 1 rfl ?_
  refine q_aload_n (pc := 1132) X dL_law_1132 rfl 0 rfl ?_
  refine q_iload_n (pc := 1133) X dL_law_1133 rfl 3 rfl ?_
  refine q_iconst (v := (1 : Int32)) (pc := 1134) X dL_law_1134 (by decide) ?_
  refine q_iadd (pc := 1135) X dL_law_1135 ?_
  refine q_sld (pc := 1136) X (nk1 k) (by omega) dL_law_1136 ?_
  refine q_aload_n (pc := 1137) X dL_law_1137 rfl 0 rfl ?_
  refine q_iload_n (pc := 1138) X dL_law_1138 rfl 3 rfl ?_
  refine q_iconst (v := (2 : Int32)) (pc := 1139) X dL_law_1139 (by decide) ?_
  refine q_iadd (pc := 1140) X dL_law_1140 ?_
  refine q_sld (pc := 1141) X (nk2 k) (by omega) dL_law_1141 ?_
  refine q_aload_n (pc := 1142) X dL_law_1142 rfl 0 rfl ?_
  refine q_iload_n (pc := 1143) X dL_law_1143 rfl 3 rfl ?_
  refine q_iconst (v := (3 : Int32)) (pc := 1144) X dL_law_1144 (by decide) ?_
  refine q_iadd (pc := 1145) X dL_law_1145 ?_
  refine q_sld (pc := 1146) X (nk3 k) (by omega) dL_law_1146 ?_
  refine q_callCL (pc := 1147) (As := [.int (xs (k + 1)), .int (xs (k + 2)), .int (xs (k + 3))]) (rest := []) X miL_X11_leave imL_X11_leave seL_X11_leave (by decide) rfl clX11 ml_L_111 (cX11_leave_ct z a 0 (xs (k + 1)) (xs (k + 2)) (xs (k + 3)) mc r hC) rfl rfl (Nat.le_of_ble_eq_true rfl) ⟨rfl, rfl, by decide, by decide, by decide, by decide⟩ dL_law_1147 ?_
  refine q_aload_n (pc := 1150) X dL_law_1150 rfl 2 rfl ?_
  refine q_aload_n (pc := 1151) X dL_law_1151 rfl 0 rfl ?_
  refine q_iload_n (pc := 1152) X dL_law_1152 rfl 3 rfl ?_
  refine q_iconst (v := (1 : Int32)) (pc := 1153) X dL_law_1153 (by decide) ?_
  refine q_iadd (pc := 1154) X dL_law_1154 ?_
  refine q_sld (pc := 1155) X (nk1 k) (by omega) dL_law_1155 ?_
  refine q_aload_n (pc := 1156) X dL_law_1156 rfl 0 rfl ?_
  refine q_iload_n (pc := 1157) X dL_law_1157 rfl 3 rfl ?_
  refine q_iconst (v := (2 : Int32)) (pc := 1158) X dL_law_1158 (by decide) ?_
  refine q_iadd (pc := 1159) X dL_law_1159 ?_
  refine q_sld (pc := 1160) X (nk2 k) (by omega) dL_law_1160 ?_
  refine q_aload_n (pc := 1161) X dL_law_1161 rfl 0 rfl ?_
  refine q_iload_n (pc := 1162) X dL_law_1162 rfl 3 rfl ?_
  refine q_iconst (v := (3 : Int32)) (pc := 1163) X dL_law_1163 (by decide) ?_
  refine q_iadd (pc := 1164) X dL_law_1164 ?_
  refine q_sld (pc := 1165) X (nk3 k) (by omega) dL_law_1165 ?_
  refine q_callML (pc := 1166) (As := [.int (xs (k + 1)), .int (xs (k + 2)), .int (xs (k + 3))]) (rest := [.long r]) X miL_X12_leave imL_X12_leave seL_X12_leave (by decide) rfl clX12 ml_L_114 (cX12_leave_ct z b 0 (xs (k + 1)) (xs (k + 2)) (xs (k + 3)) mm mm2 r hM) rfl rfl (Nat.le_of_ble_eq_true rfl) ⟨rfl, rfl, by decide, by decide, by decide, by decide⟩ dL_law_1166 ?_
  exact q_lcmp_eq (pc := 1169) (tgt := 1617) X dL_law_1169 dL_law_1170 (by decide) rfl next
theorem ml_L_115 : Cond.methodLink R_law 115 yX11_leastWater ∈ GT := gt_mem (i := 952) (by decide +kernel) (by decide +kernel)
theorem imL_X11_leastWater : Cond.instanceMethod yX11_leastWater ∈ GT := gt_mem (i := 953) (by decide +kernel) (by decide +kernel)
theorem seL_X11_leastWater : Cond.selects yX11_leastWater.cls yX11_leastWater yX11_leastWater ∈ GT := gt_mem (i := 954) (by decide +kernel) (by decide +kernel)
theorem miL_X11_leastWater : Mi yX11_leastWater cX11_leastWater 2 (some .long) 1 := ⟨gt_mem (i := 955) (by decide +kernel) (by decide +kernel), gt_mem (i := 85) (by decide +kernel) (by decide +kernel), by decide +kernel, by decide +kernel, by decide +kernel, by decide +kernel⟩
theorem ml_L_118 : Cond.methodLink R_law 118 yX12_leastWater ∈ GT := gt_mem (i := 1577) (by decide +kernel) (by decide +kernel)
theorem imL_X12_leastWater : Cond.instanceMethod yX12_leastWater ∈ GT := gt_mem (i := 1578) (by decide +kernel) (by decide +kernel)
theorem seL_X12_leastWater : Cond.selects yX12_leastWater.cls yX12_leastWater yX12_leastWater ∈ GT := gt_mem (i := 1579) (by decide +kernel) (by decide +kernel)
theorem miL_X12_leastWater : Mi yX12_leastWater cX12_leastWater 4 (some .long) 1 := ⟨gt_mem (i := 1580) (by decide +kernel) (by decide +kernel), gt_mem (i := 97) (by decide +kernel) (by decide +kernel), by decide +kernel, by decide +kernel, by decide +kernel, by decide +kernel⟩
set_option maxHeartbeats 4000000 in
set_option maxRecDepth 100000 in
theorem law_c23 {z : Zx} {x : Lx} {sb : Nat} {a b : Nat → Nat} {mc mm mm2 : Mem} {L k : Nat} {xs : Nat → Int32} {r : Int64} (X : OK2 z x L xs) (hsb : x.2.2.2.2.2.2.2 = sb) (hk : k + 6 ≤ L) (hC : fX11_leastWater 0 (xs (k + 1)) mc = some r) (hM : fX12_leastWater 0 (xs (k + 1)) mm = some (r, mm2)) (next : G2 z x 108 4296 a b 17 mc mm2 1617 [(0, .ref sb), (1, .ref (a 0)), (2, .ref (b 0)), (3, .int (nI k))] []) : G2 z x 108 4296 a b 17 mc mm 1175 [(0, .ref sb), (1, .ref (a 0)), (2, .ref (b 0)), (3, .int (nI k))] [] := by
  subst hsb
  refine q_aload_n (pc := 1175) X dL_law_1175 rfl 1 rfl ?_
  refine q_aload_n (pc := 1176) X dL_law_1176 rfl 0 rfl ?_
  refine q_iload_n (pc := 1177) X dL_law_1177 rfl 3 rfl ?_
  refine q_iconst (v := (1 : Int32)) (pc := 1178) X dL_law_1178 (by decide) ?_
  refine q_iadd (pc := 1179) X dL_law_1179 ?_
  refine q_sld (pc := 1180) X (nk1 k) (by omega) dL_law_1180 ?_
  refine q_callCL (pc := 1181) (As := [.int (xs (k + 1))]) (rest := []) X miL_X11_leastWater imL_X11_leastWater seL_X11_leastWater (by decide) rfl clX11 ml_L_115 (cX11_leastWater_ct z a 0 (xs (k + 1)) mc r hC) rfl rfl (Nat.le_of_ble_eq_true rfl) ⟨rfl, rfl, by decide, by decide, by decide, by decide⟩ dL_law_1181 ?_
  refine q_aload_n (pc := 1184) X dL_law_1184 rfl 2 rfl ?_
  refine q_aload_n (pc := 1185) X dL_law_1185 rfl 0 rfl ?_
  refine q_iload_n (pc := 1186) X dL_law_1186 rfl 3 rfl ?_
  refine q_iconst (v := (1 : Int32)) (pc := 1187) X dL_law_1187 (by decide) ?_
  refine q_iadd (pc := 1188) X dL_law_1188 ?_
  refine q_sld (pc := 1189) X (nk1 k) (by omega) dL_law_1189 ?_
  refine q_callML (pc := 1190) (As := [.int (xs (k + 1))]) (rest := [.long r]) X miL_X12_leastWater imL_X12_leastWater seL_X12_leastWater (by decide) rfl clX12 ml_L_118 (cX12_leastWater_ct z b 0 (xs (k + 1)) mm mm2 r hM) rfl rfl (Nat.le_of_ble_eq_true rfl) ⟨rfl, rfl, by decide, by decide, by decide, by decide⟩ dL_law_1190 ?_
  exact q_lcmp_eq (pc := 1193) (tgt := 1617) X dL_law_1193 dL_law_1194 (by decide) rfl next
theorem ml_L_119 : Cond.methodLink R_law 119 yX11_sign ∈ GT := gt_mem (i := 962) (by decide +kernel) (by decide +kernel)
theorem imL_X11_sign : Cond.instanceMethod yX11_sign ∈ GT := gt_mem (i := 963) (by decide +kernel) (by decide +kernel)
theorem seL_X11_sign : Cond.selects yX11_sign.cls yX11_sign yX11_sign ∈ GT := gt_mem (i := 964) (by decide +kernel) (by decide +kernel)
theorem miL_X11_sign : Mi yX11_sign cX11_sign 3 (some .long) 2 := ⟨gt_mem (i := 965) (by decide +kernel) (by decide +kernel), gt_mem (i := 85) (by decide +kernel) (by decide +kernel), by decide +kernel, by decide +kernel, by decide +kernel, by decide +kernel⟩
theorem ml_L_122 : Cond.methodLink R_law 122 yX12_sign ∈ GT := gt_mem (i := 1581) (by decide +kernel) (by decide +kernel)
theorem imL_X12_sign : Cond.instanceMethod yX12_sign ∈ GT := gt_mem (i := 1582) (by decide +kernel) (by decide +kernel)
theorem seL_X12_sign : Cond.selects yX12_sign.cls yX12_sign yX12_sign ∈ GT := gt_mem (i := 1583) (by decide +kernel) (by decide +kernel)
theorem miL_X12_sign : Mi yX12_sign cX12_sign 3 (some .long) 2 := ⟨gt_mem (i := 1584) (by decide +kernel) (by decide +kernel), gt_mem (i := 97) (by decide +kernel) (by decide +kernel), by decide +kernel, by decide +kernel, by decide +kernel, by decide +kernel⟩
set_option maxHeartbeats 4000000 in
set_option maxRecDepth 100000 in
theorem law_c24 {z : Zx} {x : Lx} {sb : Nat} {a b : Nat → Nat} {mc mm mm2 : Mem} {L k : Nat} {xs : Nat → Int32} {r : Int64} (X : OK2 z x L xs) (hsb : x.2.2.2.2.2.2.2 = sb) (hk : k + 6 ≤ L) (hC : fX11_sign 0 (xs (k + 1)) (xs (k + 2)) mc = some r) (hM : fX12_sign 0 (xs (k + 1)) (xs (k + 2)) mm = some (r, mm2)) (next : G2 z x 108 4296 a b 17 mc mm2 1617 [(0, .ref sb), (1, .ref (a 0)), (2, .ref (b 0)), (3, .int (nI k))] []) : G2 z x 108 4296 a b 17 mc mm 1199 [(0, .ref sb), (1, .ref (a 0)), (2, .ref (b 0)), (3, .int (nI k))] [] := by
  subst hsb
  refine q_aload_n (pc := 1199) X dL_law_1199 rfl 1 rfl ?_
  refine q_aload_n (pc := 1200) X dL_law_1200 rfl 0 rfl ?_
  refine q_iload_n (pc := 1201) X dL_law_1201 rfl 3 rfl ?_
  refine q_iconst (v := (1 : Int32)) (pc := 1202) X dL_law_1202 (by decide) ?_
  refine q_iadd (pc := 1203) X dL_law_1203 ?_
  refine q_sld (pc := 1204) X (nk1 k) (by omega) dL_law_1204 ?_
  refine q_aload_n (pc := 1205) X dL_law_1205 rfl 0 rfl ?_
  refine q_iload_n (pc := 1206) X dL_law_1206 rfl 3 rfl ?_
  refine q_iconst (v := (2 : Int32)) (pc := 1207) X dL_law_1207 (by decide) ?_
  refine q_iadd (pc := 1208) X dL_law_1208 ?_
  refine q_sld (pc := 1209) X (nk2 k) (by omega) dL_law_1209 ?_
  refine q_callCL (pc := 1210) (As := [.int (xs (k + 1)), .int (xs (k + 2))]) (rest := []) X miL_X11_sign imL_X11_sign seL_X11_sign (by decide) rfl clX11 ml_L_119 (cX11_sign_ct z a 0 (xs (k + 1)) (xs (k + 2)) mc r hC) rfl rfl (Nat.le_of_ble_eq_true rfl) ⟨rfl, rfl, by decide, by decide, by decide, by decide⟩ dL_law_1210 ?_
  refine q_aload_n (pc := 1213) X dL_law_1213 rfl 2 rfl ?_
  refine q_aload_n (pc := 1214) X dL_law_1214 rfl 0 rfl ?_
  refine q_iload_n (pc := 1215) X dL_law_1215 rfl 3 rfl ?_
  refine q_iconst (v := (1 : Int32)) (pc := 1216) X dL_law_1216 (by decide) ?_
  refine q_iadd (pc := 1217) X dL_law_1217 ?_
  refine q_sld (pc := 1218) X (nk1 k) (by omega) dL_law_1218 ?_
  refine q_aload_n (pc := 1219) X dL_law_1219 rfl 0 rfl ?_
  refine q_iload_n (pc := 1220) X dL_law_1220 rfl 3 rfl ?_
  refine q_iconst (v := (2 : Int32)) (pc := 1221) X dL_law_1221 (by decide) ?_
  refine q_iadd (pc := 1222) X dL_law_1222 ?_
  refine q_sld (pc := 1223) X (nk2 k) (by omega) dL_law_1223 ?_
  refine q_callML (pc := 1224) (As := [.int (xs (k + 1)), .int (xs (k + 2))]) (rest := [.long r]) X miL_X12_sign imL_X12_sign seL_X12_sign (by decide) rfl clX12 ml_L_122 (cX12_sign_ct z b 0 (xs (k + 1)) (xs (k + 2)) mm mm2 r hM) rfl rfl (Nat.le_of_ble_eq_true rfl) ⟨rfl, rfl, by decide, by decide, by decide, by decide⟩ dL_law_1224 ?_
  exact q_lcmp_eq (pc := 1227) (tgt := 1617) X dL_law_1227 dL_law_1228 (by decide) rfl next
theorem ml_L_123 : Cond.methodLink R_law 123 yX11_oath ∈ GT := gt_mem (i := 972) (by decide +kernel) (by decide +kernel)
theorem imL_X11_oath : Cond.instanceMethod yX11_oath ∈ GT := gt_mem (i := 973) (by decide +kernel) (by decide +kernel)
theorem seL_X11_oath : Cond.selects yX11_oath.cls yX11_oath yX11_oath ∈ GT := gt_mem (i := 974) (by decide +kernel) (by decide +kernel)
theorem miL_X11_oath : Mi yX11_oath cX11_oath 2 (some .long) 1 := ⟨gt_mem (i := 975) (by decide +kernel) (by decide +kernel), gt_mem (i := 85) (by decide +kernel) (by decide +kernel), by decide +kernel, by decide +kernel, by decide +kernel, by decide +kernel⟩
theorem ml_L_126 : Cond.methodLink R_law 126 yX12_oath ∈ GT := gt_mem (i := 1601) (by decide +kernel) (by decide +kernel)
theorem imL_X12_oath : Cond.instanceMethod yX12_oath ∈ GT := gt_mem (i := 1602) (by decide +kernel) (by decide +kernel)
theorem seL_X12_oath : Cond.selects yX12_oath.cls yX12_oath yX12_oath ∈ GT := gt_mem (i := 1603) (by decide +kernel) (by decide +kernel)
theorem miL_X12_oath : Mi yX12_oath cX12_oath 2 (some .long) 1 := ⟨gt_mem (i := 1604) (by decide +kernel) (by decide +kernel), gt_mem (i := 97) (by decide +kernel) (by decide +kernel), by decide +kernel, by decide +kernel, by decide +kernel, by decide +kernel⟩
set_option maxHeartbeats 4000000 in
set_option maxRecDepth 100000 in
theorem law_c25 {z : Zx} {x : Lx} {sb : Nat} {a b : Nat → Nat} {mc mm mm2 : Mem} {L k : Nat} {xs : Nat → Int32} {r : Int64} (X : OK2 z x L xs) (hsb : x.2.2.2.2.2.2.2 = sb) (hk : k + 6 ≤ L) (hC : fX11_oath 0 (xs (k + 1)) mc = some r) (hM : fX12_oath 0 (xs (k + 1)) mm = some (r, mm2)) (next : G2 z x 108 4296 a b 17 mc mm2 1617 [(0, .ref sb), (1, .ref (a 0)), (2, .ref (b 0)), (3, .int (nI k))] []) : G2 z x 108 4296 a b 17 mc mm 1233 [(0, .ref sb), (1, .ref (a 0)), (2, .ref (b 0)), (3, .int (nI k))] [] := by
  subst hsb
  refine q_aload_n (pc := 1233) X dL_law_1233 rfl 1 rfl ?_
  refine q_aload_n (pc := 1234) X dL_law_1234 rfl 0 rfl ?_
  refine q_iload_n (pc := 1235) X dL_law_1235 rfl 3 rfl ?_
  refine q_iconst (v := (1 : Int32)) (pc := 1236) X dL_law_1236 (by decide) ?_
  refine q_iadd (pc := 1237) X dL_law_1237 ?_
  refine q_sld (pc := 1238) X (nk1 k) (by omega) dL_law_1238 ?_
  refine q_callCL (pc := 1239) (As := [.int (xs (k + 1))]) (rest := []) X miL_X11_oath imL_X11_oath seL_X11_oath (by decide) rfl clX11 ml_L_123 (cX11_oath_ct z a 0 (xs (k + 1)) mc r hC) rfl rfl (Nat.le_of_ble_eq_true rfl) ⟨rfl, rfl, by decide, by decide, by decide, by decide⟩ dL_law_1239 ?_
  refine q_aload_n (pc := 1242) X dL_law_1242 rfl 2 rfl ?_
  refine q_aload_n (pc := 1243) X dL_law_1243 rfl 0 rfl ?_
  refine q_iload_n (pc := 1244) X dL_law_1244 rfl 3 rfl ?_
  refine q_iconst (v := (1 : Int32)) (pc := 1245) X dL_law_1245 (by decide) ?_
  refine q_iadd (pc := 1246) X dL_law_1246 ?_
  refine q_sld (pc := 1247) X (nk1 k) (by omega) dL_law_1247 ?_
  refine q_callML (pc := 1248) (As := [.int (xs (k + 1))]) (rest := [.long r]) X miL_X12_oath imL_X12_oath seL_X12_oath (by decide) rfl clX12 ml_L_126 (cX12_oath_ct z b 0 (xs (k + 1)) mm mm2 r hM) rfl rfl (Nat.le_of_ble_eq_true rfl) ⟨rfl, rfl, by decide, by decide, by decide, by decide⟩ dL_law_1248 ?_
  exact q_lcmp_eq (pc := 1251) (tgt := 1617) X dL_law_1251 dL_law_1252 (by decide) rfl next
theorem ml_L_127 : Cond.methodLink R_law 127 yX11_madeUp ∈ GT := gt_mem (i := 980) (by decide +kernel) (by decide +kernel)
theorem imL_X11_madeUp : Cond.instanceMethod yX11_madeUp ∈ GT := gt_mem (i := 981) (by decide +kernel) (by decide +kernel)
theorem seL_X11_madeUp : Cond.selects yX11_madeUp.cls yX11_madeUp yX11_madeUp ∈ GT := gt_mem (i := 982) (by decide +kernel) (by decide +kernel)
theorem miL_X11_madeUp : Mi yX11_madeUp cX11_madeUp 2 (some .long) 1 := ⟨gt_mem (i := 983) (by decide +kernel) (by decide +kernel), gt_mem (i := 85) (by decide +kernel) (by decide +kernel), by decide +kernel, by decide +kernel, by decide +kernel, by decide +kernel⟩
theorem ml_L_130 : Cond.methodLink R_law 130 yX12_madeUp ∈ GT := gt_mem (i := 1610) (by decide +kernel) (by decide +kernel)
theorem imL_X12_madeUp : Cond.instanceMethod yX12_madeUp ∈ GT := gt_mem (i := 1611) (by decide +kernel) (by decide +kernel)
theorem seL_X12_madeUp : Cond.selects yX12_madeUp.cls yX12_madeUp yX12_madeUp ∈ GT := gt_mem (i := 1612) (by decide +kernel) (by decide +kernel)
theorem miL_X12_madeUp : Mi yX12_madeUp cX12_madeUp 2 (some .long) 1 := ⟨gt_mem (i := 1613) (by decide +kernel) (by decide +kernel), gt_mem (i := 97) (by decide +kernel) (by decide +kernel), by decide +kernel, by decide +kernel, by decide +kernel, by decide +kernel⟩
set_option maxHeartbeats 4000000 in
set_option maxRecDepth 100000 in
theorem law_c26 {z : Zx} {x : Lx} {sb : Nat} {a b : Nat → Nat} {mc mm mm2 : Mem} {L k : Nat} {xs : Nat → Int32} {r : Int64} (X : OK2 z x L xs) (hsb : x.2.2.2.2.2.2.2 = sb) (hk : k + 6 ≤ L) (hC : fX11_madeUp 0 (xs (k + 1)) mc = some r) (hM : fX12_madeUp 0 (xs (k + 1)) mm = some (r, mm2)) (next : G2 z x 108 4296 a b 17 mc mm2 1617 [(0, .ref sb), (1, .ref (a 0)), (2, .ref (b 0)), (3, .int (nI k))] []) : G2 z x 108 4296 a b 17 mc mm 1257 [(0, .ref sb), (1, .ref (a 0)), (2, .ref (b 0)), (3, .int (nI k))] [] := by
  subst hsb
  refine q_aload_n (pc := 1257) X dL_law_1257 rfl 1 rfl ?_
  refine q_aload_n (pc := 1258) X dL_law_1258 rfl 0 rfl ?_
  refine q_iload_n (pc := 1259) X dL_law_1259 rfl 3 rfl ?_
  refine q_iconst (v := (1 : Int32)) (pc := 1260) X dL_law_1260 (by decide) ?_
  refine q_iadd (pc := 1261) X dL_law_1261 ?_
  refine q_sld (pc := 1262) X (nk1 k) (by omega) dL_law_1262 ?_
  refine q_callCL (pc := 1263) (As := [.int (xs (k + 1))]) (rest := []) X miL_X11_madeUp imL_X11_madeUp seL_X11_madeUp (by decide) rfl clX11 ml_L_127 (cX11_madeUp_ct z a 0 (xs (k + 1)) mc r hC) rfl rfl (Nat.le_of_ble_eq_true rfl) ⟨rfl, rfl, by decide, by decide, by decide, by decide⟩ dL_law_1263 ?_
  refine q_aload_n (pc := 1266) X dL_law_1266 rfl 2 rfl ?_
  refine q_aload_n (pc := 1267) X dL_law_1267 rfl 0 rfl ?_
  refine q_iload_n (pc := 1268) X dL_law_1268 rfl 3 rfl ?_
  refine q_iconst (v := (1 : Int32)) (pc := 1269) X dL_law_1269 (by decide) ?_
  refine q_iadd (pc := 1270) X dL_law_1270 ?_
  refine q_sld (pc := 1271) X (nk1 k) (by omega) dL_law_1271 ?_
  refine q_callML (pc := 1272) (As := [.int (xs (k + 1))]) (rest := [.long r]) X miL_X12_madeUp imL_X12_madeUp seL_X12_madeUp (by decide) rfl clX12 ml_L_130 (cX12_madeUp_ct z b 0 (xs (k + 1)) mm mm2 r hM) rfl rfl (Nat.le_of_ble_eq_true rfl) ⟨rfl, rfl, by decide, by decide, by decide, by decide⟩ dL_law_1272 ?_
  exact q_lcmp_eq (pc := 1275) (tgt := 1617) X dL_law_1275 dL_law_1276 (by decide) rfl next
theorem ml_L_131 : Cond.methodLink R_law 131 yX11_odds ∈ GT := gt_mem (i := 988) (by decide +kernel) (by decide +kernel)
theorem imL_X11_odds : Cond.instanceMethod yX11_odds ∈ GT := gt_mem (i := 989) (by decide +kernel) (by decide +kernel)
theorem seL_X11_odds : Cond.selects yX11_odds.cls yX11_odds yX11_odds ∈ GT := gt_mem (i := 990) (by decide +kernel) (by decide +kernel)
theorem miL_X11_odds : Mi yX11_odds cX11_odds 8 (some .long) 3 := ⟨gt_mem (i := 991) (by decide +kernel) (by decide +kernel), gt_mem (i := 85) (by decide +kernel) (by decide +kernel), by decide +kernel, by decide +kernel, by decide +kernel, by decide +kernel⟩
theorem ml_L_134 : Cond.methodLink R_law 134 yX12_odds ∈ GT := gt_mem (i := 1614) (by decide +kernel) (by decide +kernel)
theorem imL_X12_odds : Cond.instanceMethod yX12_odds ∈ GT := gt_mem (i := 1615) (by decide +kernel) (by decide +kernel)
theorem seL_X12_odds : Cond.selects yX12_odds.cls yX12_odds yX12_odds ∈ GT := gt_mem (i := 1616) (by decide +kernel) (by decide +kernel)
theorem miL_X12_odds : Mi yX12_odds cX12_odds 7 (some .long) 3 := ⟨gt_mem (i := 1617) (by decide +kernel) (by decide +kernel), gt_mem (i := 97) (by decide +kernel) (by decide +kernel), by decide +kernel, by decide +kernel, by decide +kernel, by decide +kernel⟩
set_option maxHeartbeats 4000000 in
set_option maxRecDepth 100000 in
theorem law_c27 {z : Zx} {x : Lx} {sb : Nat} {a b : Nat → Nat} {mc mm mm2 : Mem} {L k : Nat} {xs : Nat → Int32} {r : Int64} (X : OK2 z x L xs) (hsb : x.2.2.2.2.2.2.2 = sb) (hk : k + 6 ≤ L) (hC : fX11_odds 0 (xs (k + 1)) (xs (k + 2)) (xs (k + 3)) mc = some r) (hM : fX12_odds 0 (xs (k + 1)) (xs (k + 2)) (xs (k + 3)) mm = some (r, mm2)) (next : G2 z x 108 4296 a b 17 mc mm2 1617 [(0, .ref sb), (1, .ref (a 0)), (2, .ref (b 0)), (3, .int (nI k))] []) : G2 z x 108 4296 a b 17 mc mm 1281 [(0, .ref sb), (1, .ref (a 0)), (2, .ref (b 0)), (3, .int (nI k))] [] := by
  subst hsb
  refine q_aload_n (pc := 1281) X dL_law_1281 rfl 1 rfl ?_
  refine q_aload_n (pc := 1282) X dL_law_1282 rfl 0 rfl ?_
  refine q_iload_n (pc := 1283) X dL_law_1283 rfl 3 rfl ?_
  refine q_iconst (v := (1 : Int32)) (pc := 1284) X dL_law_1284 (by decide) ?_
  refine q_iadd (pc := 1285) X dL_law_1285 ?_
  refine q_sld (pc := 1286) X (nk1 k) (by omega) dL_law_1286 ?_
  refine q_aload_n (pc := 1287) X dL_law_1287 rfl 0 rfl ?_
  refine q_iload_n (pc := 1288) X dL_law_1288 rfl 3 rfl ?_
  refine q_iconst (v := (2 : Int32)) (pc := 1289) X dL_law_1289 (by decide) ?_
  refine q_iadd (pc := 1290) X dL_law_1290 ?_
  refine q_sld (pc := 1291) X (nk2 k) (by omega) dL_law_1291 ?_
  refine q_aload_n (pc := 1292) X dL_law_1292 rfl 0 rfl ?_
  refine q_iload_n (pc := 1293) X dL_law_1293 rfl 3 rfl ?_
  refine q_iconst (v := (3 : Int32)) (pc := 1294) X dL_law_1294 (by decide) ?_
  refine q_iadd (pc := 1295) X dL_law_1295 ?_
  refine q_sld (pc := 1296) X (nk3 k) (by omega) dL_law_1296 ?_
  refine q_callCL (pc := 1297) (As := [.int (xs (k + 1)), .int (xs (k + 2)), .int (xs (k + 3))]) (rest := []) X miL_X11_odds imL_X11_odds seL_X11_odds (by decide) rfl clX11 ml_L_131 (cX11_odds_ct z a 0 (xs (k + 1)) (xs (k + 2)) (xs (k + 3)) mc r hC) rfl rfl (Nat.le_of_ble_eq_true rfl) ⟨rfl, rfl, by decide, by decide, by decide, by decide⟩ dL_law_1297 ?_
  refine q_aload_n (pc := 1300) X dL_law_1300 rfl 2 rfl ?_
  refine q_aload_n (pc := 1301) X dL_law_1301 rfl 0 rfl ?_
  refine q_iload_n (pc := 1302) X dL_law_1302 rfl 3 rfl ?_
  refine q_iconst (v := (1 : Int32)) (pc := 1303) X dL_law_1303 (by decide) ?_
  refine q_iadd (pc := 1304) X dL_law_1304 ?_
  refine q_sld (pc := 1305) X (nk1 k) (by omega) dL_law_1305 ?_
  refine q_aload_n (pc := 1306) X dL_law_1306 rfl 0 rfl ?_
  refine q_iload_n (pc := 1307) X dL_law_1307 rfl 3 rfl ?_
  refine q_iconst (v := (2 : Int32)) (pc := 1308) X dL_law_1308 (by decide) ?_
  refine q_iadd (pc := 1309) X dL_law_1309 ?_
  refine q_sld (pc := 1310) X (nk2 k) (by omega) dL_law_1310 ?_
  refine q_aload_n (pc := 1311) X dL_law_1311 rfl 0 rfl ?_
  refine q_iload_n (pc := 1312) X dL_law_1312 rfl 3 rfl ?_
  refine q_iconst (v := (3 : Int32)) (pc := 1313) X dL_law_1313 (by decide) ?_
  refine q_iadd (pc := 1314) X dL_law_1314 ?_
  refine q_sld (pc := 1315) X (nk3 k) (by omega) dL_law_1315 ?_
  refine q_callML (pc := 1316) (As := [.int (xs (k + 1)), .int (xs (k + 2)), .int (xs (k + 3))]) (rest := [.long r]) X miL_X12_odds imL_X12_odds seL_X12_odds (by decide) rfl clX12 ml_L_134 (cX12_odds_ct z b 0 (xs (k + 1)) (xs (k + 2)) (xs (k + 3)) mm mm2 r hM) rfl rfl (Nat.le_of_ble_eq_true rfl) ⟨rfl, rfl, by decide, by decide, by decide, by decide⟩ dL_law_1316 ?_
  exact q_lcmp_eq (pc := 1319) (tgt := 1617) X dL_law_1319 dL_law_1320 (by decide) rfl next
theorem ml_L_135 : Cond.methodLink R_law 135 yX11_likeliest ∈ GT := gt_mem (i := 1007) (by decide +kernel) (by decide +kernel)
theorem imL_X11_likeliest : Cond.instanceMethod yX11_likeliest ∈ GT := gt_mem (i := 1008) (by decide +kernel) (by decide +kernel)
theorem seL_X11_likeliest : Cond.selects yX11_likeliest.cls yX11_likeliest yX11_likeliest ∈ GT := gt_mem (i := 1009) (by decide +kernel) (by decide +kernel)
theorem miL_X11_likeliest : Mi yX11_likeliest cX11_likeliest 2 (some .long) 1 := ⟨gt_mem (i := 1010) (by decide +kernel) (by decide +kernel), gt_mem (i := 85) (by decide +kernel) (by decide +kernel), by decide +kernel, by decide +kernel, by decide +kernel, by decide +kernel⟩
theorem ml_L_138 : Cond.methodLink R_law 138 yX12_likeliest ∈ GT := gt_mem (i := 1631) (by decide +kernel) (by decide +kernel)
theorem imL_X12_likeliest : Cond.instanceMethod yX12_likeliest ∈ GT := gt_mem (i := 1632) (by decide +kernel) (by decide +kernel)
theorem seL_X12_likeliest : Cond.selects yX12_likeliest.cls yX12_likeliest yX12_likeliest ∈ GT := gt_mem (i := 1633) (by decide +kernel) (by decide +kernel)
theorem miL_X12_likeliest : Mi yX12_likeliest cX12_likeliest 8 (some .long) 1 := ⟨gt_mem (i := 1634) (by decide +kernel) (by decide +kernel), gt_mem (i := 97) (by decide +kernel) (by decide +kernel), by decide +kernel, by decide +kernel, by decide +kernel, by decide +kernel⟩
set_option maxHeartbeats 4000000 in
set_option maxRecDepth 100000 in
theorem law_c28 {z : Zx} {x : Lx} {sb : Nat} {a b : Nat → Nat} {mc mm mm2 : Mem} {L k : Nat} {xs : Nat → Int32} {r : Int64} (X : OK2 z x L xs) (hsb : x.2.2.2.2.2.2.2 = sb) (hk : k + 6 ≤ L) (hC : fX11_likeliest 0 (xs (k + 1)) mc = some r) (hM : fX12_likeliest 0 (xs (k + 1)) mm = some (r, mm2)) (next : G2 z x 108 4296 a b 17 mc mm2 1617 [(0, .ref sb), (1, .ref (a 0)), (2, .ref (b 0)), (3, .int (nI k))] []) : G2 z x 108 4296 a b 17 mc mm 1325 [(0, .ref sb), (1, .ref (a 0)), (2, .ref (b 0)), (3, .int (nI k))] [] := by
  subst hsb
  refine q_aload_n (pc := 1325) X dL_law_1325 rfl 1 rfl ?_
  refine q_aload_n (pc := 1326) X dL_law_1326 rfl 0 rfl ?_
  refine q_iload_n (pc := 1327) X dL_law_1327 rfl 3 rfl ?_
  refine q_iconst (v := (1 : Int32)) (pc := 1328) X dL_law_1328 (by decide) ?_
  refine q_iadd (pc := 1329) X dL_law_1329 ?_
  refine q_sld (pc := 1330) X (nk1 k) (by omega) dL_law_1330 ?_
  refine q_callCL (pc := 1331) (As := [.int (xs (k + 1))]) (rest := []) X miL_X11_likeliest imL_X11_likeliest seL_X11_likeliest (by decide) rfl clX11 ml_L_135 (cX11_likeliest_ct z a 0 (xs (k + 1)) mc r hC) rfl rfl (Nat.le_of_ble_eq_true rfl) ⟨rfl, rfl, by decide, by decide, by decide, by decide⟩ dL_law_1331 ?_
  refine q_aload_n (pc := 1334) X dL_law_1334 rfl 2 rfl ?_
  refine q_aload_n (pc := 1335) X dL_law_1335 rfl 0 rfl ?_
  refine q_iload_n (pc := 1336) X dL_law_1336 rfl 3 rfl ?_
  refine q_iconst (v := (1 : Int32)) (pc := 1337) X dL_law_1337 (by decide) ?_
  refine q_iadd (pc := 1338) X dL_law_1338 ?_
  refine q_sld (pc := 1339) X (nk1 k) (by omega) dL_law_1339 ?_
  refine q_callML (pc := 1340) (As := [.int (xs (k + 1))]) (rest := [.long r]) X miL_X12_likeliest imL_X12_likeliest seL_X12_likeliest (by decide) rfl clX12 ml_L_138 (cX12_likeliest_ct z b 0 (xs (k + 1)) mm mm2 r hM) rfl rfl (Nat.le_of_ble_eq_true rfl) ⟨rfl, rfl, by decide, by decide, by decide, by decide⟩ dL_law_1340 ?_
  exact q_lcmp_eq (pc := 1343) (tgt := 1617) X dL_law_1343 dL_law_1344 (by decide) rfl next
theorem ml_L_139 : Cond.methodLink R_law 139 yX11_lacks ∈ GT := gt_mem (i := 1017) (by decide +kernel) (by decide +kernel)
theorem imL_X11_lacks : Cond.instanceMethod yX11_lacks ∈ GT := gt_mem (i := 1018) (by decide +kernel) (by decide +kernel)
theorem seL_X11_lacks : Cond.selects yX11_lacks.cls yX11_lacks yX11_lacks ∈ GT := gt_mem (i := 1019) (by decide +kernel) (by decide +kernel)
theorem miL_X11_lacks : Mi yX11_lacks cX11_lacks 5 (some .long) 3 := ⟨gt_mem (i := 1020) (by decide +kernel) (by decide +kernel), gt_mem (i := 85) (by decide +kernel) (by decide +kernel), by decide +kernel, by decide +kernel, by decide +kernel, by decide +kernel⟩
theorem ml_L_142 : Cond.methodLink R_law 142 yX12_lacks ∈ GT := gt_mem (i := 1635) (by decide +kernel) (by decide +kernel)
theorem imL_X12_lacks : Cond.instanceMethod yX12_lacks ∈ GT := gt_mem (i := 1636) (by decide +kernel) (by decide +kernel)
theorem seL_X12_lacks : Cond.selects yX12_lacks.cls yX12_lacks yX12_lacks ∈ GT := gt_mem (i := 1637) (by decide +kernel) (by decide +kernel)
theorem miL_X12_lacks : Mi yX12_lacks cX12_lacks 4 (some .long) 3 := ⟨gt_mem (i := 1638) (by decide +kernel) (by decide +kernel), gt_mem (i := 97) (by decide +kernel) (by decide +kernel), by decide +kernel, by decide +kernel, by decide +kernel, by decide +kernel⟩
set_option maxHeartbeats 4000000 in
set_option maxRecDepth 100000 in
theorem law_c29 {z : Zx} {x : Lx} {sb : Nat} {a b : Nat → Nat} {mc mm mm2 : Mem} {L k : Nat} {xs : Nat → Int32} {r : Int64} (X : OK2 z x L xs) (hsb : x.2.2.2.2.2.2.2 = sb) (hk : k + 6 ≤ L) (hC : fX11_lacks 0 (xs (k + 1)) (xs (k + 2)) (xs (k + 3)) mc = some r) (hM : fX12_lacks 0 (xs (k + 1)) (xs (k + 2)) (xs (k + 3)) mm = some (r, mm2)) (next : G2 z x 108 4296 a b 17 mc mm2 1617 [(0, .ref sb), (1, .ref (a 0)), (2, .ref (b 0)), (3, .int (nI k))] []) : G2 z x 108 4296 a b 17 mc mm 1349 [(0, .ref sb), (1, .ref (a 0)), (2, .ref (b 0)), (3, .int (nI k))] [] := by
  subst hsb
  refine q_aload_n (pc := 1349) X dL_law_1349 rfl 1 rfl ?_
  refine q_aload_n (pc := 1350) X dL_law_1350 rfl 0 rfl ?_
  refine q_iload_n (pc := 1351) X dL_law_1351 rfl 3 rfl ?_
  refine q_iconst (v := (1 : Int32)) (pc := 1352) X dL_law_1352 (by decide) ?_
  refine q_iadd (pc := 1353) X dL_law_1353 ?_
  refine q_sld (pc := 1354) X (nk1 k) (by omega) dL_law_1354 ?_
  refine q_aload_n (pc := 1355) X dL_law_1355 rfl 0 rfl ?_
  refine q_iload_n (pc := 1356) X dL_law_1356 rfl 3 rfl ?_
  refine q_iconst (v := (2 : Int32)) (pc := 1357) X dL_law_1357 (by decide) ?_
  refine q_iadd (pc := 1358) X dL_law_1358 ?_
  refine q_sld (pc := 1359) X (nk2 k) (by omega) dL_law_1359 ?_
  refine q_aload_n (pc := 1360) X dL_law_1360 rfl 0 rfl ?_
  refine q_iload_n (pc := 1361) X dL_law_1361 rfl 3 rfl ?_
  refine q_iconst (v := (3 : Int32)) (pc := 1362) X dL_law_1362 (by decide) ?_
  refine q_iadd (pc := 1363) X dL_law_1363 ?_
  refine q_sld (pc := 1364) X (nk3 k) (by omega) dL_law_1364 ?_
  refine q_callCL (pc := 1365) (As := [.int (xs (k + 1)), .int (xs (k + 2)), .int (xs (k + 3))]) (rest := []) X miL_X11_lacks imL_X11_lacks seL_X11_lacks (by decide) rfl clX11 ml_L_139 (cX11_lacks_ct z a 0 (xs (k + 1)) (xs (k + 2)) (xs (k + 3)) mc r hC) rfl rfl (Nat.le_of_ble_eq_true rfl) ⟨rfl, rfl, by decide, by decide, by decide, by decide⟩ dL_law_1365 ?_
  refine q_aload_n (pc := 1368) X dL_law_1368 rfl 2 rfl ?_
  refine q_aload_n (pc := 1369) X dL_law_1369 rfl 0 rfl ?_
  refine q_iload_n (pc := 1370) X dL_law_1370 rfl 3 rfl ?_
  refine q_iconst (v := (1 : Int32)) (pc := 1371) X dL_law_1371 (by decide) ?_
  refine q_iadd (pc := 1372) X dL_law_1372 ?_
  refine q_sld (pc := 1373) X (nk1 k) (by omega) dL_law_1373 ?_
  refine q_aload_n (pc := 1374) X dL_law_1374 rfl 0 rfl ?_
  refine q_iload_n (pc := 1375) X dL_law_1375 rfl 3 rfl ?_
  refine q_iconst (v := (2 : Int32)) (pc := 1376) X dL_law_1376 (by decide) ?_
  refine q_iadd (pc := 1377) X dL_law_1377 ?_
  refine q_sld (pc := 1378) X (nk2 k) (by omega) dL_law_1378 ?_
  refine q_aload_n (pc := 1379) X dL_law_1379 rfl 0 rfl ?_
  refine q_iload_n (pc := 1380) X dL_law_1380 rfl 3 rfl ?_
  refine q_iconst (v := (3 : Int32)) (pc := 1381) X dL_law_1381 (by decide) ?_
  refine q_iadd (pc := 1382) X dL_law_1382 ?_
  refine q_sld (pc := 1383) X (nk3 k) (by omega) dL_law_1383 ?_
  refine q_callML (pc := 1384) (As := [.int (xs (k + 1)), .int (xs (k + 2)), .int (xs (k + 3))]) (rest := [.long r]) X miL_X12_lacks imL_X12_lacks seL_X12_lacks (by decide) rfl clX12 ml_L_142 (cX12_lacks_ct z b 0 (xs (k + 1)) (xs (k + 2)) (xs (k + 3)) mm mm2 r hM) rfl rfl (Nat.le_of_ble_eq_true rfl) ⟨rfl, rfl, by decide, by decide, by decide, by decide⟩ dL_law_1384 ?_
  exact q_lcmp_eq (pc := 1387) (tgt := 1617) X dL_law_1387 dL_law_1388 (by decide) rfl next
theorem ml_L_143 : Cond.methodLink R_law 143 yX11_next ∈ GT := gt_mem (i := 1021) (by decide +kernel) (by decide +kernel)
theorem imL_X11_next : Cond.instanceMethod yX11_next ∈ GT := gt_mem (i := 1022) (by decide +kernel) (by decide +kernel)
theorem seL_X11_next : Cond.selects yX11_next.cls yX11_next yX11_next ∈ GT := gt_mem (i := 1023) (by decide +kernel) (by decide +kernel)
theorem miL_X11_next : Mi yX11_next cX11_next 2 (some .long) 1 := ⟨gt_mem (i := 1024) (by decide +kernel) (by decide +kernel), gt_mem (i := 85) (by decide +kernel) (by decide +kernel), by decide +kernel, by decide +kernel, by decide +kernel, by decide +kernel⟩
theorem ml_L_146 : Cond.methodLink R_law 146 yX12_next_ ∈ GT := gt_mem (i := 1639) (by decide +kernel) (by decide +kernel)
theorem imL_X12_next_ : Cond.instanceMethod yX12_next_ ∈ GT := gt_mem (i := 1640) (by decide +kernel) (by decide +kernel)
theorem seL_X12_next_ : Cond.selects yX12_next_.cls yX12_next_ yX12_next_ ∈ GT := gt_mem (i := 1641) (by decide +kernel) (by decide +kernel)
theorem miL_X12_next_ : Mi yX12_next_ cX12_next_ 6 (some .long) 1 := ⟨gt_mem (i := 1642) (by decide +kernel) (by decide +kernel), gt_mem (i := 97) (by decide +kernel) (by decide +kernel), by decide +kernel, by decide +kernel, by decide +kernel, by decide +kernel⟩
set_option maxHeartbeats 4000000 in
set_option maxRecDepth 100000 in
theorem law_c30 {z : Zx} {x : Lx} {sb : Nat} {a b : Nat → Nat} {mc mm mm2 : Mem} {L k : Nat} {xs : Nat → Int32} {r : Int64} (X : OK2 z x L xs) (hsb : x.2.2.2.2.2.2.2 = sb) (hk : k + 6 ≤ L) (hC : fX11_next 0 (xs (k + 1)) mc = some r) (hM : fX12_next_ 0 (xs (k + 1)) mm = some (r, mm2)) (next : G2 z x 108 4296 a b 17 mc mm2 1617 [(0, .ref sb), (1, .ref (a 0)), (2, .ref (b 0)), (3, .int (nI k))] []) : G2 z x 108 4296 a b 17 mc mm 1393 [(0, .ref sb), (1, .ref (a 0)), (2, .ref (b 0)), (3, .int (nI k))] [] := by
  subst hsb
  refine q_aload_n (pc := 1393) X dL_law_1393 rfl 1 rfl ?_
  refine q_aload_n (pc := 1394) X dL_law_1394 rfl 0 rfl ?_
  refine q_iload_n (pc := 1395) X dL_law_1395 rfl 3 rfl ?_
  refine q_iconst (v := (1 : Int32)) (pc := 1396) X dL_law_1396 (by decide) ?_
  refine q_iadd (pc := 1397) X dL_law_1397 ?_
  refine q_sld (pc := 1398) X (nk1 k) (by omega) dL_law_1398 ?_
  refine q_callCL (pc := 1399) (As := [.int (xs (k + 1))]) (rest := []) X miL_X11_next imL_X11_next seL_X11_next (by decide) rfl clX11 ml_L_143 (cX11_next_ct z a 0 (xs (k + 1)) mc r hC) rfl rfl (Nat.le_of_ble_eq_true rfl) ⟨rfl, rfl, by decide, by decide, by decide, by decide⟩ dL_law_1399 ?_
  refine q_aload_n (pc := 1402) X dL_law_1402 rfl 2 rfl ?_
  refine q_aload_n (pc := 1403) X dL_law_1403 rfl 0 rfl ?_
  refine q_iload_n (pc := 1404) X dL_law_1404 rfl 3 rfl ?_
  refine q_iconst (v := (1 : Int32)) (pc := 1405) X dL_law_1405 (by decide) ?_
  refine q_iadd (pc := 1406) X dL_law_1406 ?_
  refine q_sld (pc := 1407) X (nk1 k) (by omega) dL_law_1407 ?_
  refine q_callML (pc := 1408) (As := [.int (xs (k + 1))]) (rest := [.long r]) X miL_X12_next_ imL_X12_next_ seL_X12_next_ (by decide) rfl clX12 ml_L_146 (cX12_next__ct z b 0 (xs (k + 1)) mm mm2 r hM) rfl rfl (Nat.le_of_ble_eq_true rfl) ⟨rfl, rfl, by decide, by decide, by decide, by decide⟩ dL_law_1408 ?_
  exact q_lcmp_eq (pc := 1411) (tgt := 1617) X dL_law_1411 dL_law_1412 (by decide) rfl next
theorem ml_L_147 : Cond.methodLink R_law 147 yX11_image ∈ GT := gt_mem (i := 1031) (by decide +kernel) (by decide +kernel)
theorem imL_X11_image : Cond.instanceMethod yX11_image ∈ GT := gt_mem (i := 1032) (by decide +kernel) (by decide +kernel)
theorem seL_X11_image : Cond.selects yX11_image.cls yX11_image yX11_image ∈ GT := gt_mem (i := 1033) (by decide +kernel) (by decide +kernel)
theorem miL_X11_image : Mi yX11_image cX11_image 2 (some .long) 1 := ⟨gt_mem (i := 1034) (by decide +kernel) (by decide +kernel), gt_mem (i := 85) (by decide +kernel) (by decide +kernel), by decide +kernel, by decide +kernel, by decide +kernel, by decide +kernel⟩
theorem ml_L_150 : Cond.methodLink R_law 150 yX12_image ∈ GT := gt_mem (i := 1646) (by decide +kernel) (by decide +kernel)
theorem imL_X12_image : Cond.instanceMethod yX12_image ∈ GT := gt_mem (i := 1647) (by decide +kernel) (by decide +kernel)
theorem seL_X12_image : Cond.selects yX12_image.cls yX12_image yX12_image ∈ GT := gt_mem (i := 1648) (by decide +kernel) (by decide +kernel)
theorem miL_X12_image : Mi yX12_image cX12_image 3 (some .long) 1 := ⟨gt_mem (i := 1649) (by decide +kernel) (by decide +kernel), gt_mem (i := 97) (by decide +kernel) (by decide +kernel), by decide +kernel, by decide +kernel, by decide +kernel, by decide +kernel⟩
set_option maxHeartbeats 4000000 in
set_option maxRecDepth 100000 in
theorem law_c31 {z : Zx} {x : Lx} {sb : Nat} {a b : Nat → Nat} {mc mm mc2 mm2 : Mem} {L k : Nat} {xs : Nat → Int32} {r : Int64} (X : OK2 z x L xs) (hsb : x.2.2.2.2.2.2.2 = sb) (hk : k + 6 ≤ L) (hC : fX11_image 0 (xs (k + 1)) mc = some (r, mc2)) (hM : fX12_image 0 (xs (k + 1)) mm = some (r, mm2)) (next : G2 z x 108 4296 a b 17 mc2 mm2 1617 [(0, .ref sb), (1, .ref (a 0)), (2, .ref (b 0)), (3, .int (nI k))] []) : G2 z x 108 4296 a b 17 mc mm 1417 [(0, .ref sb), (1, .ref (a 0)), (2, .ref (b 0)), (3, .int (nI k))] [] := by
  subst hsb
  refine q_aload_n (pc := 1417) X dL_law_1417 rfl 1 rfl ?_
  refine q_aload_n (pc := 1418) X dL_law_1418 rfl 0 rfl ?_
  refine q_iload_n (pc := 1419) X dL_law_1419 rfl 3 rfl ?_
  refine q_iconst (v := (1 : Int32)) (pc := 1420) X dL_law_1420 (by decide) ?_
  refine q_iadd (pc := 1421) X dL_law_1421 ?_
  refine q_sld (pc := 1422) X (nk1 k) (by omega) dL_law_1422 ?_
  refine q_callCL (pc := 1423) (As := [.int (xs (k + 1))]) (rest := []) X miL_X11_image imL_X11_image seL_X11_image (by decide) rfl clX11 ml_L_147 (cX11_image_ct z a 0 (xs (k + 1)) mc mc2 r hC) rfl rfl (Nat.le_of_ble_eq_true rfl) ⟨rfl, rfl, by decide, by decide, by decide, by decide⟩ dL_law_1423 ?_
  refine q_aload_n (pc := 1426) X dL_law_1426 rfl 2 rfl ?_
  refine q_aload_n (pc := 1427) X dL_law_1427 rfl 0 rfl ?_
  refine q_iload_n (pc := 1428) X dL_law_1428 rfl 3 rfl ?_
  refine q_iconst (v := (1 : Int32)) (pc := 1429) X dL_law_1429 (by decide) ?_
  refine q_iadd (pc := 1430) X dL_law_1430 ?_
  refine q_sld (pc := 1431) X (nk1 k) (by omega) dL_law_1431 ?_
  refine q_callML (pc := 1432) (As := [.int (xs (k + 1))]) (rest := [.long r]) X miL_X12_image imL_X12_image seL_X12_image (by decide) rfl clX12 ml_L_150 (cX12_image_ct z b 0 (xs (k + 1)) mm mm2 r hM) rfl rfl (Nat.le_of_ble_eq_true rfl) ⟨rfl, rfl, by decide, by decide, by decide, by decide⟩ dL_law_1432 ?_
  exact q_lcmp_eq (pc := 1435) (tgt := 1617) X dL_law_1435 dL_law_1436 (by decide) rfl next
theorem ml_L_151 : Cond.methodLink R_law 151 yX11_restore ∈ GT := gt_mem (i := 1058) (by decide +kernel) (by decide +kernel)
theorem imL_X11_restore : Cond.instanceMethod yX11_restore ∈ GT := gt_mem (i := 1059) (by decide +kernel) (by decide +kernel)
theorem seL_X11_restore : Cond.selects yX11_restore.cls yX11_restore yX11_restore ∈ GT := gt_mem (i := 1060) (by decide +kernel) (by decide +kernel)
theorem miL_X11_restore : Mi yX11_restore cX11_restore 2 (some .long) 1 := ⟨gt_mem (i := 1061) (by decide +kernel) (by decide +kernel), gt_mem (i := 85) (by decide +kernel) (by decide +kernel), by decide +kernel, by decide +kernel, by decide +kernel, by decide +kernel⟩
theorem ml_L_154 : Cond.methodLink R_law 154 yX12_restore ∈ GT := gt_mem (i := 1650) (by decide +kernel) (by decide +kernel)
theorem imL_X12_restore : Cond.instanceMethod yX12_restore ∈ GT := gt_mem (i := 1651) (by decide +kernel) (by decide +kernel)
theorem seL_X12_restore : Cond.selects yX12_restore.cls yX12_restore yX12_restore ∈ GT := gt_mem (i := 1652) (by decide +kernel) (by decide +kernel)
theorem miL_X12_restore : Mi yX12_restore cX12_restore 3 (some .long) 1 := ⟨gt_mem (i := 1653) (by decide +kernel) (by decide +kernel), gt_mem (i := 97) (by decide +kernel) (by decide +kernel), by decide +kernel, by decide +kernel, by decide +kernel, by decide +kernel⟩
set_option maxHeartbeats 4000000 in
set_option maxRecDepth 100000 in
theorem law_c32 {z : Zx} {x : Lx} {sb : Nat} {a b : Nat → Nat} {mc mm mc2 mm2 : Mem} {L k : Nat} {xs : Nat → Int32} {r : Int64} (X : OK2 z x L xs) (hsb : x.2.2.2.2.2.2.2 = sb) (hk : k + 6 ≤ L) (hC : fX11_restore 0 (xs (k + 1)) mc = some (r, mc2)) (hM : fX12_restore 0 (xs (k + 1)) mm = some (r, mm2)) (next : G2 z x 108 4296 a b 17 mc2 mm2 1617 [(0, .ref sb), (1, .ref (a 0)), (2, .ref (b 0)), (3, .int (nI k))] []) : G2 z x 108 4296 a b 17 mc mm 1441 [(0, .ref sb), (1, .ref (a 0)), (2, .ref (b 0)), (3, .int (nI k))] [] := by
  subst hsb
  refine q_aload_n (pc := 1441) X dL_law_1441 rfl 1 rfl ?_
  refine q_aload_n (pc := 1442) X dL_law_1442 rfl 0 rfl ?_
  refine q_iload_n (pc := 1443) X dL_law_1443 rfl 3 rfl ?_
  refine q_iconst (v := (1 : Int32)) (pc := 1444) X dL_law_1444 (by decide) ?_
  refine q_iadd (pc := 1445) X dL_law_1445 ?_
  refine q_sld (pc := 1446) X (nk1 k) (by omega) dL_law_1446 ?_
  refine q_callCL (pc := 1447) (As := [.int (xs (k + 1))]) (rest := []) X miL_X11_restore imL_X11_restore seL_X11_restore (by decide) rfl clX11 ml_L_151 (cX11_restore_ct z a 0 (xs (k + 1)) mc mc2 r hC) rfl rfl (Nat.le_of_ble_eq_true rfl) ⟨rfl, rfl, by decide, by decide, by decide, by decide⟩ dL_law_1447 ?_
  refine q_aload_n (pc := 1450) X dL_law_1450 rfl 2 rfl ?_
  refine q_aload_n (pc := 1451) X dL_law_1451 rfl 0 rfl ?_
  refine q_iload_n (pc := 1452) X dL_law_1452 rfl 3 rfl ?_
  refine q_iconst (v := (1 : Int32)) (pc := 1453) X dL_law_1453 (by decide) ?_
  refine q_iadd (pc := 1454) X dL_law_1454 ?_
  refine q_sld (pc := 1455) X (nk1 k) (by omega) dL_law_1455 ?_
  refine q_callML (pc := 1456) (As := [.int (xs (k + 1))]) (rest := [.long r]) X miL_X12_restore imL_X12_restore seL_X12_restore (by decide) rfl clX12 ml_L_154 (cX12_restore_ct z b 0 (xs (k + 1)) mm mm2 r hM) rfl rfl (Nat.le_of_ble_eq_true rfl) ⟨rfl, rfl, by decide, by decide, by decide, by decide⟩ dL_law_1456 ?_
  exact q_lcmp_eq (pc := 1459) (tgt := 1617) X dL_law_1459 dL_law_1460 (by decide) rfl next
theorem ml_L_155 : Cond.methodLink R_law 155 yX11_kind ∈ GT := gt_mem (i := 1062) (by decide +kernel) (by decide +kernel)
theorem imL_X11_kind : Cond.instanceMethod yX11_kind ∈ GT := gt_mem (i := 1063) (by decide +kernel) (by decide +kernel)
theorem seL_X11_kind : Cond.selects yX11_kind.cls yX11_kind yX11_kind ∈ GT := gt_mem (i := 1064) (by decide +kernel) (by decide +kernel)
theorem miL_X11_kind : Mi yX11_kind cX11_kind 2 (some .long) 1 := ⟨gt_mem (i := 1065) (by decide +kernel) (by decide +kernel), gt_mem (i := 85) (by decide +kernel) (by decide +kernel), by decide +kernel, by decide +kernel, by decide +kernel, by decide +kernel⟩
theorem ml_L_158 : Cond.methodLink R_law 158 yX12_kind ∈ GT := gt_mem (i := 1654) (by decide +kernel) (by decide +kernel)
theorem imL_X12_kind : Cond.instanceMethod yX12_kind ∈ GT := gt_mem (i := 1655) (by decide +kernel) (by decide +kernel)
theorem seL_X12_kind : Cond.selects yX12_kind.cls yX12_kind yX12_kind ∈ GT := gt_mem (i := 1656) (by decide +kernel) (by decide +kernel)
theorem miL_X12_kind : Mi yX12_kind cX12_kind 2 (some .long) 1 := ⟨gt_mem (i := 1657) (by decide +kernel) (by decide +kernel), gt_mem (i := 97) (by decide +kernel) (by decide +kernel), by decide +kernel, by decide +kernel, by decide +kernel, by decide +kernel⟩
set_option maxHeartbeats 4000000 in
set_option maxRecDepth 100000 in
theorem law_c33 {z : Zx} {x : Lx} {sb : Nat} {a b : Nat → Nat} {mc mm mm2 : Mem} {L k : Nat} {xs : Nat → Int32} {r : Int64} (X : OK2 z x L xs) (hsb : x.2.2.2.2.2.2.2 = sb) (hk : k + 6 ≤ L) (hC : fX11_kind 0 (xs (k + 1)) mc = some r) (hM : fX12_kind 0 (xs (k + 1)) mm = some (r, mm2)) (next : G2 z x 108 4296 a b 17 mc mm2 1617 [(0, .ref sb), (1, .ref (a 0)), (2, .ref (b 0)), (3, .int (nI k))] []) : G2 z x 108 4296 a b 17 mc mm 1465 [(0, .ref sb), (1, .ref (a 0)), (2, .ref (b 0)), (3, .int (nI k))] [] := by
  subst hsb
  refine q_aload_n (pc := 1465) X dL_law_1465 rfl 1 rfl ?_
  refine q_aload_n (pc := 1466) X dL_law_1466 rfl 0 rfl ?_
  refine q_iload_n (pc := 1467) X dL_law_1467 rfl 3 rfl ?_
  refine q_iconst (v := (1 : Int32)) (pc := 1468) X dL_law_1468 (by decide) ?_
  refine q_iadd (pc := 1469) X dL_law_1469 ?_
  refine q_sld (pc := 1470) X (nk1 k) (by omega) dL_law_1470 ?_
  refine q_callCL (pc := 1471) (As := [.int (xs (k + 1))]) (rest := []) X miL_X11_kind imL_X11_kind seL_X11_kind (by decide) rfl clX11 ml_L_155 (cX11_kind_ct z a 0 (xs (k + 1)) mc r hC) rfl rfl (Nat.le_of_ble_eq_true rfl) ⟨rfl, rfl, by decide, by decide, by decide, by decide⟩ dL_law_1471 ?_
  refine q_aload_n (pc := 1474) X dL_law_1474 rfl 2 rfl ?_
  refine q_aload_n (pc := 1475) X dL_law_1475 rfl 0 rfl ?_
  refine q_iload_n (pc := 1476) X dL_law_1476 rfl 3 rfl ?_
  refine q_iconst (v := (1 : Int32)) (pc := 1477) X dL_law_1477 (by decide) ?_
  refine q_iadd (pc := 1478) X dL_law_1478 ?_
  refine q_sld (pc := 1479) X (nk1 k) (by omega) dL_law_1479 ?_
  refine q_callML (pc := 1480) (As := [.int (xs (k + 1))]) (rest := [.long r]) X miL_X12_kind imL_X12_kind seL_X12_kind (by decide) rfl clX12 ml_L_158 (cX12_kind_ct z b 0 (xs (k + 1)) mm mm2 r hM) rfl rfl (Nat.le_of_ble_eq_true rfl) ⟨rfl, rfl, by decide, by decide, by decide, by decide⟩ dL_law_1480 ?_
  exact q_lcmp_eq (pc := 1483) (tgt := 1617) X dL_law_1483 dL_law_1484 (by decide) rfl next
theorem ml_L_159 : Cond.methodLink R_law 159 yX11_as ∈ GT := gt_mem (i := 1066) (by decide +kernel) (by decide +kernel)
theorem imL_X11_as : Cond.instanceMethod yX11_as ∈ GT := gt_mem (i := 1067) (by decide +kernel) (by decide +kernel)
theorem seL_X11_as : Cond.selects yX11_as.cls yX11_as yX11_as ∈ GT := gt_mem (i := 1068) (by decide +kernel) (by decide +kernel)
theorem miL_X11_as : Mi yX11_as cX11_as 3 (some .long) 2 := ⟨gt_mem (i := 1069) (by decide +kernel) (by decide +kernel), gt_mem (i := 85) (by decide +kernel) (by decide +kernel), by decide +kernel, by decide +kernel, by decide +kernel, by decide +kernel⟩
theorem ml_L_162 : Cond.methodLink R_law 162 yX12_as ∈ GT := gt_mem (i := 1658) (by decide +kernel) (by decide +kernel)
theorem imL_X12_as : Cond.instanceMethod yX12_as ∈ GT := gt_mem (i := 1659) (by decide +kernel) (by decide +kernel)
theorem seL_X12_as : Cond.selects yX12_as.cls yX12_as yX12_as ∈ GT := gt_mem (i := 1660) (by decide +kernel) (by decide +kernel)
theorem miL_X12_as : Mi yX12_as cX12_as 3 (some .long) 2 := ⟨gt_mem (i := 1661) (by decide +kernel) (by decide +kernel), gt_mem (i := 97) (by decide +kernel) (by decide +kernel), by decide +kernel, by decide +kernel, by decide +kernel, by decide +kernel⟩
set_option maxHeartbeats 4000000 in
set_option maxRecDepth 100000 in
theorem law_c34 {z : Zx} {x : Lx} {sb : Nat} {a b : Nat → Nat} {mc mm mc2 mm2 : Mem} {L k : Nat} {xs : Nat → Int32} {r : Int64} (X : OK2 z x L xs) (hsb : x.2.2.2.2.2.2.2 = sb) (hk : k + 6 ≤ L) (hC : fX11_as 0 (xs (k + 1)) (xs (k + 2)) mc = some (r, mc2)) (hM : fX12_as 0 (xs (k + 1)) (xs (k + 2)) mm = some (r, mm2)) (next : G2 z x 108 4296 a b 17 mc2 mm2 1617 [(0, .ref sb), (1, .ref (a 0)), (2, .ref (b 0)), (3, .int (nI k))] []) : G2 z x 108 4296 a b 17 mc mm 1489 [(0, .ref sb), (1, .ref (a 0)), (2, .ref (b 0)), (3, .int (nI k))] [] := by
  subst hsb
  refine q_aload_n (pc := 1489) X dL_law_1489 rfl 1 rfl ?_
  refine q_aload_n (pc := 1490) X dL_law_1490 rfl 0 rfl ?_
  refine q_iload_n (pc := 1491) X dL_law_1491 rfl 3 rfl ?_
  refine q_iconst (v := (1 : Int32)) (pc := 1492) X dL_law_1492 (by decide) ?_
  refine q_iadd (pc := 1493) X dL_law_1493 ?_
  refine q_sld (pc := 1494) X (nk1 k) (by omega) dL_law_1494 ?_
  refine q_aload_n (pc := 1495) X dL_law_1495 rfl 0 rfl ?_
  refine q_iload_n (pc := 1496) X dL_law_1496 rfl 3 rfl ?_
  refine q_iconst (v := (2 : Int32)) (pc := 1497) X dL_law_1497 (by decide) ?_
  refine q_iadd (pc := 1498) X dL_law_1498 ?_
  refine q_sld (pc := 1499) X (nk2 k) (by omega) dL_law_1499 ?_
  refine q_callCL (pc := 1500) (As := [.int (xs (k + 1)), .int (xs (k + 2))]) (rest := []) X miL_X11_as imL_X11_as seL_X11_as (by decide) rfl clX11 ml_L_159 (cX11_as_ct z a 0 (xs (k + 1)) (xs (k + 2)) mc mc2 r hC) rfl rfl (Nat.le_of_ble_eq_true rfl) ⟨rfl, rfl, by decide, by decide, by decide, by decide⟩ dL_law_1500 ?_
  refine q_aload_n (pc := 1503) X dL_law_1503 rfl 2 rfl ?_
  refine q_aload_n (pc := 1504) X dL_law_1504 rfl 0 rfl ?_
  refine q_iload_n (pc := 1505) X dL_law_1505 rfl 3 rfl ?_
  refine q_iconst (v := (1 : Int32)) (pc := 1506) X dL_law_1506 (by decide) ?_
  refine q_iadd (pc := 1507) X dL_law_1507 ?_
  refine q_sld (pc := 1508) X (nk1 k) (by omega) dL_law_1508 ?_
  refine q_aload_n (pc := 1509) X dL_law_1509 rfl 0 rfl ?_
  refine q_iload_n (pc := 1510) X dL_law_1510 rfl 3 rfl ?_
  refine q_iconst (v := (2 : Int32)) (pc := 1511) X dL_law_1511 (by decide) ?_
  refine q_iadd (pc := 1512) X dL_law_1512 ?_
  refine q_sld (pc := 1513) X (nk2 k) (by omega) dL_law_1513 ?_
  refine q_callML (pc := 1514) (As := [.int (xs (k + 1)), .int (xs (k + 2))]) (rest := [.long r]) X miL_X12_as imL_X12_as seL_X12_as (by decide) rfl clX12 ml_L_162 (cX12_as_ct z b 0 (xs (k + 1)) (xs (k + 2)) mm mm2 r hM) rfl rfl (Nat.le_of_ble_eq_true rfl) ⟨rfl, rfl, by decide, by decide, by decide, by decide⟩ dL_law_1514 ?_
  exact q_lcmp_eq (pc := 1517) (tgt := 1617) X dL_law_1517 dL_law_1518 (by decide) rfl next
theorem ml_L_163 : Cond.methodLink R_law 163 yX11_ask ∈ GT := gt_mem (i := 1076) (by decide +kernel) (by decide +kernel)
theorem imL_X11_ask : Cond.instanceMethod yX11_ask ∈ GT := gt_mem (i := 1077) (by decide +kernel) (by decide +kernel)
theorem seL_X11_ask : Cond.selects yX11_ask.cls yX11_ask yX11_ask ∈ GT := gt_mem (i := 1078) (by decide +kernel) (by decide +kernel)
theorem miL_X11_ask : Mi yX11_ask cX11_ask 3 (some .long) 2 := ⟨gt_mem (i := 1079) (by decide +kernel) (by decide +kernel), gt_mem (i := 85) (by decide +kernel) (by decide +kernel), by decide +kernel, by decide +kernel, by decide +kernel, by decide +kernel⟩
theorem ml_L_166 : Cond.methodLink R_law 166 yX12_ask ∈ GT := gt_mem (i := 1665) (by decide +kernel) (by decide +kernel)
theorem imL_X12_ask : Cond.instanceMethod yX12_ask ∈ GT := gt_mem (i := 1666) (by decide +kernel) (by decide +kernel)
theorem seL_X12_ask : Cond.selects yX12_ask.cls yX12_ask yX12_ask ∈ GT := gt_mem (i := 1667) (by decide +kernel) (by decide +kernel)
theorem miL_X12_ask : Mi yX12_ask cX12_ask 4 (some .long) 2 := ⟨gt_mem (i := 1668) (by decide +kernel) (by decide +kernel), gt_mem (i := 97) (by decide +kernel) (by decide +kernel), by decide +kernel, by decide +kernel, by decide +kernel, by decide +kernel⟩
set_option maxHeartbeats 4000000 in
set_option maxRecDepth 100000 in
theorem law_c35 {z : Zx} {x : Lx} {sb : Nat} {a b : Nat → Nat} {mc mm mc2 mm2 : Mem} {L k : Nat} {xs : Nat → Int32} {r : Int64} (X : OK2 z x L xs) (hsb : x.2.2.2.2.2.2.2 = sb) (hk : k + 6 ≤ L) (hC : fX11_ask 0 (xs (k + 1)) (xs (k + 2)) mc = some (r, mc2)) (hM : fX12_ask 0 (xs (k + 1)) (xs (k + 2)) mm = some (r, mm2)) (next : G2 z x 108 4296 a b 17 mc2 mm2 1617 [(0, .ref sb), (1, .ref (a 0)), (2, .ref (b 0)), (3, .int (nI k))] []) : G2 z x 108 4296 a b 17 mc mm 1523 [(0, .ref sb), (1, .ref (a 0)), (2, .ref (b 0)), (3, .int (nI k))] [] := by
  subst hsb
  refine q_aload_n (pc := 1523) X dL_law_1523 rfl 1 rfl ?_
  refine q_aload_n (pc := 1524) X dL_law_1524 rfl 0 rfl ?_
  refine q_iload_n (pc := 1525) X dL_law_1525 rfl 3 rfl ?_
  refine q_iconst (v := (1 : Int32)) (pc := 1526) X dL_law_1526 (by decide) ?_
  refine q_iadd (pc := 1527) X dL_law_1527 ?_
  refine q_sld (pc := 1528) X (nk1 k) (by omega) dL_law_1528 ?_
  refine q_aload_n (pc := 1529) X dL_law_1529 rfl 0 rfl ?_
  refine q_iload_n (pc := 1530) X dL_law_1530 rfl 3 rfl ?_
  refine q_iconst (v := (2 : Int32)) (pc := 1531) X dL_law_1531 (by decide) ?_
  refine q_iadd (pc := 1532) X dL_law_1532 ?_
  refine q_sld (pc := 1533) X (nk2 k) (by omega) dL_law_1533 ?_
  refine q_callCL (pc := 1534) (As := [.int (xs (k + 1)), .int (xs (k + 2))]) (rest := []) X miL_X11_ask imL_X11_ask seL_X11_ask (by decide) rfl clX11 ml_L_163 (cX11_ask_ct z a 0 (xs (k + 1)) (xs (k + 2)) mc mc2 r hC) rfl rfl (Nat.le_of_ble_eq_true rfl) ⟨rfl, rfl, by decide, by decide, by decide, by decide⟩ dL_law_1534 ?_
  refine q_aload_n (pc := 1537) X dL_law_1537 rfl 2 rfl ?_
  refine q_aload_n (pc := 1538) X dL_law_1538 rfl 0 rfl ?_
  refine q_iload_n (pc := 1539) X dL_law_1539 rfl 3 rfl ?_
  refine q_iconst (v := (1 : Int32)) (pc := 1540) X dL_law_1540 (by decide) ?_
  refine q_iadd (pc := 1541) X dL_law_1541 ?_
  refine q_sld (pc := 1542) X (nk1 k) (by omega) dL_law_1542 ?_
  refine q_aload_n (pc := 1543) X dL_law_1543 rfl 0 rfl ?_
  refine q_iload_n (pc := 1544) X dL_law_1544 rfl 3 rfl ?_
  refine q_iconst (v := (2 : Int32)) (pc := 1545) X dL_law_1545 (by decide) ?_
  refine q_iadd (pc := 1546) X dL_law_1546 ?_
  refine q_sld (pc := 1547) X (nk2 k) (by omega) dL_law_1547 ?_
  refine q_callML (pc := 1548) (As := [.int (xs (k + 1)), .int (xs (k + 2))]) (rest := [.long r]) X miL_X12_ask imL_X12_ask seL_X12_ask (by decide) rfl clX12 ml_L_166 (cX12_ask_ct z b 0 (xs (k + 1)) (xs (k + 2)) mm mm2 r hM) rfl rfl (Nat.le_of_ble_eq_true rfl) ⟨rfl, rfl, by decide, by decide, by decide, by decide⟩ dL_law_1548 ?_
  exact q_lcmp_eq (pc := 1551) (tgt := 1617) X dL_law_1551 dL_law_1552 (by decide) rfl next
theorem ml_L_167 : Cond.methodLink R_law 167 yX11_trace ∈ GT := gt_mem (i := 1143) (by decide +kernel) (by decide +kernel)
theorem imL_X11_trace : Cond.instanceMethod yX11_trace ∈ GT := gt_mem (i := 1144) (by decide +kernel) (by decide +kernel)
theorem seL_X11_trace : Cond.selects yX11_trace.cls yX11_trace yX11_trace ∈ GT := gt_mem (i := 1145) (by decide +kernel) (by decide +kernel)
theorem miL_X11_trace : Mi yX11_trace cX11_trace 2 (some .int) 1 := ⟨gt_mem (i := 1146) (by decide +kernel) (by decide +kernel), gt_mem (i := 85) (by decide +kernel) (by decide +kernel), by decide +kernel, by decide +kernel, by decide +kernel, by decide +kernel⟩
theorem ml_L_171 : Cond.methodLink R_law 171 yX12_trace ∈ GT := gt_mem (i := 1689) (by decide +kernel) (by decide +kernel)
theorem imL_X12_trace : Cond.instanceMethod yX12_trace ∈ GT := gt_mem (i := 1690) (by decide +kernel) (by decide +kernel)
theorem seL_X12_trace : Cond.selects yX12_trace.cls yX12_trace yX12_trace ∈ GT := gt_mem (i := 1691) (by decide +kernel) (by decide +kernel)
theorem miL_X12_trace : Mi yX12_trace cX12_trace 2 (some .int) 1 := ⟨gt_mem (i := 1692) (by decide +kernel) (by decide +kernel), gt_mem (i := 97) (by decide +kernel) (by decide +kernel), by decide +kernel, by decide +kernel, by decide +kernel, by decide +kernel⟩
set_option maxHeartbeats 4000000 in
set_option maxRecDepth 100000 in
theorem law_c36 {z : Zx} {x : Lx} {sb : Nat} {a b : Nat → Nat} {mc mm mm2 : Mem} {L k : Nat} {xs : Nat → Int32} {r : Int32} (X : OK2 z x L xs) (hsb : x.2.2.2.2.2.2.2 = sb) (hk : k + 6 ≤ L) (hC : fX11_trace 0 (xs (k + 1)) mc = some r) (hM : fX12_trace 0 (xs (k + 1)) mm = some (r, mm2)) (next : G2 z x 108 4296 a b 17 mc mm2 1617 [(0, .ref sb), (1, .ref (a 0)), (2, .ref (b 0)), (3, .int (nI k))] []) : G2 z x 108 4296 a b 17 mc mm 1557 [(0, .ref sb), (1, .ref (a 0)), (2, .ref (b 0)), (3, .int (nI k))] [] := by
  subst hsb
  refine q_aload_n (pc := 1557) X dL_law_1557 rfl 1 rfl ?_
  refine q_aload_n (pc := 1558) X dL_law_1558 rfl 0 rfl ?_
  refine q_iload_n (pc := 1559) X dL_law_1559 rfl 3 rfl ?_
  refine q_iconst (v := (1 : Int32)) (pc := 1560) X dL_law_1560 (by decide) ?_
  refine q_iadd (pc := 1561) X dL_law_1561 ?_
  refine q_sld (pc := 1562) X (nk1 k) (by omega) dL_law_1562 ?_
  refine q_callCI (pc := 1563) (As := [.int (xs (k + 1))]) (rest := []) X miL_X11_trace imL_X11_trace seL_X11_trace (by decide) rfl clX11 ml_L_167 (cX11_trace_ct z a 0 (xs (k + 1)) mc r hC) rfl rfl (Nat.le_of_ble_eq_true rfl) ⟨rfl, rfl, by decide, by decide, by decide, by decide⟩ dL_law_1563 ?_
  refine q_aload_n (pc := 1566) X dL_law_1566 rfl 2 rfl ?_
  refine q_aload_n (pc := 1567) X dL_law_1567 rfl 0 rfl ?_
  refine q_iload_n (pc := 1568) X dL_law_1568 rfl 3 rfl ?_
  refine q_iconst (v := (1 : Int32)) (pc := 1569) X dL_law_1569 (by decide) ?_
  refine q_iadd (pc := 1570) X dL_law_1570 ?_
  refine q_sld (pc := 1571) X (nk1 k) (by omega) dL_law_1571 ?_
  refine q_callMI (pc := 1572) (As := [.int (xs (k + 1))]) (rest := [.int r]) X miL_X12_trace imL_X12_trace seL_X12_trace (by decide) rfl clX12 ml_L_171 (cX12_trace_ct z b 0 (xs (k + 1)) mm mm2 r hM) rfl rfl (Nat.le_of_ble_eq_true rfl) ⟨rfl, rfl, by decide, by decide, by decide, by decide⟩ dL_law_1572 ?_
  exact q_icmp_eq (pc := 1575) (tgt := 1617) X dL_law_1575 (by decide) (fun _ => next) (fun h => absurd rfl h)
theorem ml_L_172 : Cond.methodLink R_law 172 yX11_count ∈ GT := gt_mem (i := 1147) (by decide +kernel) (by decide +kernel)
theorem imL_X11_count : Cond.instanceMethod yX11_count ∈ GT := gt_mem (i := 1148) (by decide +kernel) (by decide +kernel)
theorem seL_X11_count : Cond.selects yX11_count.cls yX11_count yX11_count ∈ GT := gt_mem (i := 1149) (by decide +kernel) (by decide +kernel)
theorem miL_X11_count : Mi yX11_count cX11_count 2 (some .long) 1 := ⟨gt_mem (i := 1150) (by decide +kernel) (by decide +kernel), gt_mem (i := 85) (by decide +kernel) (by decide +kernel), by decide +kernel, by decide +kernel, by decide +kernel, by decide +kernel⟩
theorem ml_L_175 : Cond.methodLink R_law 175 yX12_count ∈ GT := gt_mem (i := 1693) (by decide +kernel) (by decide +kernel)
theorem imL_X12_count : Cond.instanceMethod yX12_count ∈ GT := gt_mem (i := 1694) (by decide +kernel) (by decide +kernel)
theorem seL_X12_count : Cond.selects yX12_count.cls yX12_count yX12_count ∈ GT := gt_mem (i := 1695) (by decide +kernel) (by decide +kernel)
theorem miL_X12_count : Mi yX12_count cX12_count 4 (some .long) 1 := ⟨gt_mem (i := 1696) (by decide +kernel) (by decide +kernel), gt_mem (i := 97) (by decide +kernel) (by decide +kernel), by decide +kernel, by decide +kernel, by decide +kernel, by decide +kernel⟩
set_option maxHeartbeats 4000000 in
set_option maxRecDepth 100000 in
theorem law_c37 {z : Zx} {x : Lx} {sb : Nat} {a b : Nat → Nat} {mc mm mm2 : Mem} {L k : Nat} {xs : Nat → Int32} {r : Int64} (X : OK2 z x L xs) (hsb : x.2.2.2.2.2.2.2 = sb) (hk : k + 6 ≤ L) (hC : fX11_count 0 (xs (k + 1)) mc = some r) (hM : fX12_count 0 (xs (k + 1)) mm = some (r, mm2)) (next : G2 z x 108 4296 a b 17 mc mm2 1617 [(0, .ref sb), (1, .ref (a 0)), (2, .ref (b 0)), (3, .int (nI k))] []) : G2 z x 108 4296 a b 17 mc mm 1580 [(0, .ref sb), (1, .ref (a 0)), (2, .ref (b 0)), (3, .int (nI k))] [] := by
  subst hsb
  refine q_aload_n (pc := 1580) X dL_law_1580 rfl 1 rfl ?_
  refine q_aload_n (pc := 1581) X dL_law_1581 rfl 0 rfl ?_
  refine q_iload_n (pc := 1582) X dL_law_1582 rfl 3 rfl ?_
  refine q_iconst (v := (1 : Int32)) (pc := 1583) X dL_law_1583 (by decide) ?_
  refine q_iadd (pc := 1584) X dL_law_1584 ?_
  refine q_sld (pc := 1585) X (nk1 k) (by omega) dL_law_1585 ?_
  refine q_callCL (pc := 1586) (As := [.int (xs (k + 1))]) (rest := []) X miL_X11_count imL_X11_count seL_X11_count (by decide) rfl clX11 ml_L_172 (cX11_count_ct z a 0 (xs (k + 1)) mc r hC) rfl rfl (Nat.le_of_ble_eq_true rfl) ⟨rfl, rfl, by decide, by decide, by decide, by decide⟩ dL_law_1586 ?_
  refine q_aload_n (pc := 1589) X dL_law_1589 rfl 2 rfl ?_
  refine q_aload_n (pc := 1590) X dL_law_1590 rfl 0 rfl ?_
  refine q_iload_n (pc := 1591) X dL_law_1591 rfl 3 rfl ?_
  refine q_iconst (v := (1 : Int32)) (pc := 1592) X dL_law_1592 (by decide) ?_
  refine q_iadd (pc := 1593) X dL_law_1593 ?_
  refine q_sld (pc := 1594) X (nk1 k) (by omega) dL_law_1594 ?_
  refine q_callML (pc := 1595) (As := [.int (xs (k + 1))]) (rest := [.long r]) X miL_X12_count imL_X12_count seL_X12_count (by decide) rfl clX12 ml_L_175 (cX12_count_ct z b 0 (xs (k + 1)) mm mm2 r hM) rfl rfl (Nat.le_of_ble_eq_true rfl) ⟨rfl, rfl, by decide, by decide, by decide, by decide⟩ dL_law_1595 ?_
  exact q_lcmp_eq (pc := 1598) (tgt := 1617) X dL_law_1598 dL_law_1599 (by decide) rfl next
theorem ml_L_176 : Cond.methodLink R_law 176 yX11_status ∈ GT := gt_mem (i := 1160) (by decide +kernel) (by decide +kernel)
theorem imL_X11_status : Cond.instanceMethod yX11_status ∈ GT := gt_mem (i := 1161) (by decide +kernel) (by decide +kernel)
theorem seL_X11_status : Cond.selects yX11_status.cls yX11_status yX11_status ∈ GT := gt_mem (i := 1162) (by decide +kernel) (by decide +kernel)
theorem miL_X11_status : Mi yX11_status cX11_status 1 (some .int) 0 := ⟨gt_mem (i := 1163) (by decide +kernel) (by decide +kernel), gt_mem (i := 85) (by decide +kernel) (by decide +kernel), by decide +kernel, by decide +kernel, by decide +kernel, by decide +kernel⟩
theorem ml_L_179 : Cond.methodLink R_law 179 yX12_status ∈ GT := gt_mem (i := 1697) (by decide +kernel) (by decide +kernel)
theorem imL_X12_status : Cond.instanceMethod yX12_status ∈ GT := gt_mem (i := 1698) (by decide +kernel) (by decide +kernel)
theorem seL_X12_status : Cond.selects yX12_status.cls yX12_status yX12_status ∈ GT := gt_mem (i := 1699) (by decide +kernel) (by decide +kernel)
theorem miL_X12_status : Mi yX12_status cX12_status 1 (some .int) 0 := ⟨gt_mem (i := 1700) (by decide +kernel) (by decide +kernel), gt_mem (i := 97) (by decide +kernel) (by decide +kernel), by decide +kernel, by decide +kernel, by decide +kernel, by decide +kernel⟩
set_option maxHeartbeats 4000000 in
set_option maxRecDepth 100000 in
theorem law_c38 {z : Zx} {x : Lx} {sb : Nat} {a b : Nat → Nat} {mc mm mm2 : Mem} {L k : Nat} {xs : Nat → Int32} {r : Int32} (X : OK2 z x L xs) (hsb : x.2.2.2.2.2.2.2 = sb) (hk : k + 6 ≤ L) (hC : fX11_status 0 mc = some r) (hM : fX12_status 0 mm = some (r, mm2)) (next : G2 z x 108 4296 a b 17 mc mm2 1617 [(0, .ref sb), (1, .ref (a 0)), (2, .ref (b 0)), (3, .int (nI k))] []) : G2 z x 108 4296 a b 17 mc mm 1604 [(0, .ref sb), (1, .ref (a 0)), (2, .ref (b 0)), (3, .int (nI k))] [] := by
  subst hsb
  refine q_aload_n (pc := 1604) X dL_law_1604 rfl 1 rfl ?_
  refine q_callCI (pc := 1605) (As := []) (rest := []) X miL_X11_status imL_X11_status seL_X11_status (by decide) rfl clX11 ml_L_176 (cX11_status_ct z a 0 mc r hC) rfl rfl (Nat.le_of_ble_eq_true rfl) ⟨rfl, rfl, by decide, by decide, by decide, by decide⟩ dL_law_1605 ?_
  refine q_aload_n (pc := 1608) X dL_law_1608 rfl 2 rfl ?_
  refine q_callMI (pc := 1609) (As := []) (rest := [.int r]) X miL_X12_status imL_X12_status seL_X12_status (by decide) rfl clX12 ml_L_179 (cX12_status_ct z b 0 mm mm2 r hM) rfl rfl (Nat.le_of_ble_eq_true rfl) ⟨rfl, rfl, by decide, by decide, by decide, by decide⟩ dL_law_1609 ?_
  exact q_icmp_eq (pc := 1612) (tgt := 1617) X dL_law_1612 (by decide) (fun _ => next) (fun h => absurd rfl h)
def Op0 (Rel : Mem → Mem → Prop) : Prop := ∀ mc mm, Rel mc mm → ∀ v1 v2 v3 : Int32, ∃ r : Int64, ∃ mc2, ∃ mm2, fX11_row 0 (v1) (v2) (v3) mc = some (r, mc2) ∧ fX12_row 0 (v1) (v2) (v3) mm = some (r, mm2) ∧ Rel mc2 mm2
def Op1 (Rel : Mem → Mem → Prop) : Prop := ∀ mc mm, Rel mc mm → ∀ v1 v2 v3 : Int32, ∃ r : Int64, ∃ mc2, ∃ mm2, fX11_set 0 (v1) (v2) (v3) mc = some (r, mc2) ∧ fX12_set 0 (v1) (v2) (v3) mm = some (r, mm2) ∧ Rel mc2 mm2
def Op2 (Rel : Mem → Mem → Prop) : Prop := ∀ mc mm, Rel mc mm → ∀ v1 v2 v3 v4 v5 : Int32, ∃ r : Int64, ∃ mc2, ∃ mm2, fX11_copy 0 (v1) (v2) (v3) (v4) (v5) mc = some (r, mc2) ∧ fX12_copy 0 (v1) (v2) (v3) (v4) (v5) mm = some (r, mm2) ∧ Rel mc2 mm2
def Op3 (Rel : Mem → Mem → Prop) : Prop := ∀ mc mm, Rel mc mm → ∀ v1 : Int32, ∃ r : Int64, ∃ mc2, ∃ mm2, fX11_drop 0 (v1) mc = some (r, mc2) ∧ fX12_drop 0 (v1) mm = some (r, mm2) ∧ Rel mc2 mm2
def Op4 (Rel : Mem → Mem → Prop) : Prop := ∀ mc mm, Rel mc mm → ∀ v1 v2 v3 : Int32, ∃ r : Int64, ∃ mc2, ∃ mm2, fX11_feed 0 (((v1).toInt64 <<< ((32 : Int32).toInt64 &&& 63)) ||| ((v2).toInt64 &&& (4294967295 : Int64))) (v3) mc = some (r, mc2) ∧ fX12_feed 0 (((v1).toInt64 <<< ((32 : Int32).toInt64 &&& 63)) ||| ((v2).toInt64 &&& (4294967295 : Int64))) (v3) mm = some (r, mm2) ∧ Rel mc2 mm2
def Op5 (Rel : Mem → Mem → Prop) : Prop := ∀ mc mm, Rel mc mm → ∃ r : Int64, ∃ mc2, ∃ mm2, fX11_sea 0 mc = some (r, mc2) ∧ fX12_sea 0 mm = some (r, mm2) ∧ Rel mc2 mm2
def Op6 (Rel : Mem → Mem → Prop) : Prop := ∀ mc mm, Rel mc mm → ∃ r : Int32, ∃ mm2, fX11_fault 0 mc = some r ∧ fX12_fault 0 mm = some (r, mm2) ∧ Rel mc mm2
def Op7 (Rel : Mem → Mem → Prop) : Prop := ∀ mc mm, Rel mc mm → ∀ v1 v2 v3 : Int32, ∃ r : Int64, ∃ mc2, ∃ mm2, fX11_put 0 (v1) (v2) (v3) mc = some (r, mc2) ∧ fX12_put 0 (v1) (v2) (v3) mm = some (r, mm2) ∧ Rel mc2 mm2
def Op8 (Rel : Mem → Mem → Prop) : Prop := ∀ mc mm, Rel mc mm → ∀ v1 : Int32, ∃ r : Int64, ∃ mc2, ∃ mm2, fX11_head 0 (v1) mc = some (r, mc2) ∧ fX12_head 0 (v1) mm = some (r, mm2) ∧ Rel mc2 mm2
def Op9 (Rel : Mem → Mem → Prop) : Prop := ∀ mc mm, Rel mc mm → ∀ v1 v2 v3 : Int32, ∃ r : Int64, ∃ mc2, ∃ mm2, fX11_sailed 0 (v1) (v2) (v3) mc = some (r, mc2) ∧ fX12_sailed 0 (v1) (v2) (v3) mm = some (r, mm2) ∧ Rel mc2 mm2
def Op10 (Rel : Mem → Mem → Prop) : Prop := ∀ mc mm, Rel mc mm → ∀ v1 v2 v3 : Int32, ∃ r : Int64, ∃ mc2, ∃ mm2, fX11_blown 0 (v1) (v2) (v3) mc = some (r, mc2) ∧ fX12_blown 0 (v1) (v2) (v3) mm = some (r, mm2) ∧ Rel mc2 mm2
def Op11 (Rel : Mem → Mem → Prop) : Prop := ∀ mc mm, Rel mc mm → ∀ v1 : Int32, ∃ r : Int64, ∃ mm2, fX11_ship 0 (v1) mc = some r ∧ fX12_ship 0 (v1) mm = some (r, mm2) ∧ Rel mc mm2
def Op12 (Rel : Mem → Mem → Prop) : Prop := ∀ mc mm, Rel mc mm → ∀ v1 v2 v3 v4 v5 : Int32, ∃ r : Int64, ∃ mc2, ∃ mm2, fX11_herself 0 (v1) (v2) (v3) (v4) (v5) mc = some (r, mc2) ∧ fX12_herself 0 (v1) (v2) (v3) (v4) (v5) mm = some (r, mm2) ∧ Rel mc2 mm2
def Op13 (Rel : Mem → Mem → Prop) : Prop := ∀ mc mm, Rel mc mm → ∀ v1 v2 : Int32, ∃ r : Int64, ∃ mc2, ∃ mm2, fX11_could 0 (v1) (v2) mc = some (r, mc2) ∧ fX12_could 0 (v1) (v2) mm = some (r, mm2) ∧ Rel mc2 mm2
def Op14 (Rel : Mem → Mem → Prop) : Prop := ∀ mc mm, Rel mc mm → ∀ v1 v2 v3 : Int32, ∃ r : Int64, ∃ mc2, ∃ mm2, fX11_leftAt 0 (v1) (v2) (v3) mc = some (r, mc2) ∧ fX12_leftAt 0 (v1) (v2) (v3) mm = some (r, mm2) ∧ Rel mc2 mm2
def Op15 (Rel : Mem → Mem → Prop) : Prop := ∀ mc mm, Rel mc mm → ∀ v1 v2 v3 v4 v5 : Int32, ∃ r : Int64, ∃ mc2, ∃ mm2, fX11_leftOdds 0 (v1) (v2) (v3) (v4) (v5) mc = some (r, mc2) ∧ fX12_leftOdds 0 (v1) (v2) (v3) (v4) (v5) mm = some (r, mm2) ∧ Rel mc2 mm2
def Op16 (Rel : Mem → Mem → Prop) : Prop := ∀ mc mm, Rel mc mm → ∀ v1 v2 v3 : Int32, ∃ r : Int64, ∃ mc2, ∃ mm2, fX11_boat 0 (v1) (v2) (v3) mc = some (r, mc2) ∧ fX12_boat 0 (v1) (v2) (v3) mm = some (r, mm2) ∧ Rel mc2 mm2
def Op17 (Rel : Mem → Mem → Prop) : Prop := ∀ mc mm, Rel mc mm → ∀ v1 v2 v3 : Int32, ∃ r : Int64, ∃ mm2, fX11_thought 0 (v1) (v2) (v3) = some r ∧ fX12_thought 0 (v1) (v2) (v3) mm = some (r, mm2) ∧ Rel mc mm2
def Op18 (Rel : Mem → Mem → Prop) : Prop := ∀ mc mm, Rel mc mm → ∀ v1 v2 v3 : Int32, ∃ r : Int64, ∃ mm2, fX11_seemed 0 (v1) (v2) (v3) mc = some r ∧ fX12_seemed 0 (v1) (v2) (v3) mm = some (r, mm2) ∧ Rel mc mm2
def Op19 (Rel : Mem → Mem → Prop) : Prop := ∀ mc mm, Rel mc mm → ∀ v1 : Int32, ∃ r : Int64, ∃ mm2, fX11_deep 0 (v1) mc = some r ∧ fX12_deep 0 (v1) mm = some (r, mm2) ∧ Rel mc mm2
def Op20 (Rel : Mem → Mem → Prop) : Prop := ∀ mc mm, Rel mc mm → ∀ v1 v2 v3 v4 : Int32, ∃ r : Int64, ∃ mm2, fX11_was 0 (v1) (v2) (v3) (v4) mc = some r ∧ fX12_was 0 (v1) (v2) (v3) (v4) mm = some (r, mm2) ∧ Rel mc mm2
def Op21 (Rel : Mem → Mem → Prop) : Prop := ∀ mc mm, Rel mc mm → ∀ v1 v2 v3 v4 v5 : Int32, ∃ r : Int64, ∃ mm2, fX11_bang 0 (v1) (v2) (v3) (v4) (v5) = some r ∧ fX12_bang 0 (v1) (v2) (v3) (v4) (v5) mm = some (r, mm2) ∧ Rel mc mm2
def Op22 (Rel : Mem → Mem → Prop) : Prop := ∀ mc mm, Rel mc mm → ∀ v1 v2 v3 : Int32, ∃ r : Int64, ∃ mm2, fX11_leave 0 (v1) (v2) (v3) mc = some r ∧ fX12_leave 0 (v1) (v2) (v3) mm = some (r, mm2) ∧ Rel mc mm2
def Op23 (Rel : Mem → Mem → Prop) : Prop := ∀ mc mm, Rel mc mm → ∀ v1 : Int32, ∃ r : Int64, ∃ mm2, fX11_leastWater 0 (v1) mc = some r ∧ fX12_leastWater 0 (v1) mm = some (r, mm2) ∧ Rel mc mm2
def Op24 (Rel : Mem → Mem → Prop) : Prop := ∀ mc mm, Rel mc mm → ∀ v1 v2 : Int32, ∃ r : Int64, ∃ mm2, fX11_sign 0 (v1) (v2) mc = some r ∧ fX12_sign 0 (v1) (v2) mm = some (r, mm2) ∧ Rel mc mm2
def Op25 (Rel : Mem → Mem → Prop) : Prop := ∀ mc mm, Rel mc mm → ∀ v1 : Int32, ∃ r : Int64, ∃ mm2, fX11_oath 0 (v1) mc = some r ∧ fX12_oath 0 (v1) mm = some (r, mm2) ∧ Rel mc mm2
def Op26 (Rel : Mem → Mem → Prop) : Prop := ∀ mc mm, Rel mc mm → ∀ v1 : Int32, ∃ r : Int64, ∃ mm2, fX11_madeUp 0 (v1) mc = some r ∧ fX12_madeUp 0 (v1) mm = some (r, mm2) ∧ Rel mc mm2
def Op27 (Rel : Mem → Mem → Prop) : Prop := ∀ mc mm, Rel mc mm → ∀ v1 v2 v3 : Int32, ∃ r : Int64, ∃ mm2, fX11_odds 0 (v1) (v2) (v3) mc = some r ∧ fX12_odds 0 (v1) (v2) (v3) mm = some (r, mm2) ∧ Rel mc mm2
def Op28 (Rel : Mem → Mem → Prop) : Prop := ∀ mc mm, Rel mc mm → ∀ v1 : Int32, ∃ r : Int64, ∃ mm2, fX11_likeliest 0 (v1) mc = some r ∧ fX12_likeliest 0 (v1) mm = some (r, mm2) ∧ Rel mc mm2
def Op29 (Rel : Mem → Mem → Prop) : Prop := ∀ mc mm, Rel mc mm → ∀ v1 v2 v3 : Int32, ∃ r : Int64, ∃ mm2, fX11_lacks 0 (v1) (v2) (v3) mc = some r ∧ fX12_lacks 0 (v1) (v2) (v3) mm = some (r, mm2) ∧ Rel mc mm2
def Op30 (Rel : Mem → Mem → Prop) : Prop := ∀ mc mm, Rel mc mm → ∀ v1 : Int32, ∃ r : Int64, ∃ mm2, fX11_next 0 (v1) mc = some r ∧ fX12_next_ 0 (v1) mm = some (r, mm2) ∧ Rel mc mm2
def Op31 (Rel : Mem → Mem → Prop) : Prop := ∀ mc mm, Rel mc mm → ∀ v1 : Int32, ∃ r : Int64, ∃ mc2, ∃ mm2, fX11_image 0 (v1) mc = some (r, mc2) ∧ fX12_image 0 (v1) mm = some (r, mm2) ∧ Rel mc2 mm2
def Op32 (Rel : Mem → Mem → Prop) : Prop := ∀ mc mm, Rel mc mm → ∀ v1 : Int32, ∃ r : Int64, ∃ mc2, ∃ mm2, fX11_restore 0 (v1) mc = some (r, mc2) ∧ fX12_restore 0 (v1) mm = some (r, mm2) ∧ Rel mc2 mm2
def Op33 (Rel : Mem → Mem → Prop) : Prop := ∀ mc mm, Rel mc mm → ∀ v1 : Int32, ∃ r : Int64, ∃ mm2, fX11_kind 0 (v1) mc = some r ∧ fX12_kind 0 (v1) mm = some (r, mm2) ∧ Rel mc mm2
def Op34 (Rel : Mem → Mem → Prop) : Prop := ∀ mc mm, Rel mc mm → ∀ v1 v2 : Int32, ∃ r : Int64, ∃ mc2, ∃ mm2, fX11_as 0 (v1) (v2) mc = some (r, mc2) ∧ fX12_as 0 (v1) (v2) mm = some (r, mm2) ∧ Rel mc2 mm2
def Op35 (Rel : Mem → Mem → Prop) : Prop := ∀ mc mm, Rel mc mm → ∀ v1 v2 : Int32, ∃ r : Int64, ∃ mc2, ∃ mm2, fX11_ask 0 (v1) (v2) mc = some (r, mc2) ∧ fX12_ask 0 (v1) (v2) mm = some (r, mm2) ∧ Rel mc2 mm2
def Op36 (Rel : Mem → Mem → Prop) : Prop := ∀ mc mm, Rel mc mm → ∀ v1 : Int32, ∃ r : Int32, ∃ mm2, fX11_trace 0 (v1) mc = some r ∧ fX12_trace 0 (v1) mm = some (r, mm2) ∧ Rel mc mm2
def Op37 (Rel : Mem → Mem → Prop) : Prop := ∀ mc mm, Rel mc mm → ∀ v1 : Int32, ∃ r : Int64, ∃ mm2, fX11_count 0 (v1) mc = some r ∧ fX12_count 0 (v1) mm = some (r, mm2) ∧ Rel mc mm2
def Op38 (Rel : Mem → Mem → Prop) : Prop := ∀ mc mm, Rel mc mm → ∃ r : Int32, ∃ mm2, fX11_status 0 mc = some r ∧ fX12_status 0 mm = some (r, mm2) ∧ Rel mc mm2
def Ops (Rel : Mem → Mem → Prop) : Prop := Op0 Rel ∧ Op1 Rel ∧ Op2 Rel ∧ Op3 Rel ∧ Op4 Rel ∧ Op5 Rel ∧ Op6 Rel ∧ Op7 Rel ∧ Op8 Rel ∧ Op9 Rel ∧ Op10 Rel ∧ Op11 Rel ∧ Op12 Rel ∧ Op13 Rel ∧ Op14 Rel ∧ Op15 Rel ∧ Op16 Rel ∧ Op17 Rel ∧ Op18 Rel ∧ Op19 Rel ∧ Op20 Rel ∧ Op21 Rel ∧ Op22 Rel ∧ Op23 Rel ∧ Op24 Rel ∧ Op25 Rel ∧ Op26 Rel ∧ Op27 Rel ∧ Op28 Rel ∧ Op29 Rel ∧ Op30 Rel ∧ Op31 Rel ∧ Op32 Rel ∧ Op33 Rel ∧ Op34 Rel ∧ Op35 Rel ∧ Op36 Rel ∧ Op37 Rel ∧ Op38 Rel
theorem and63 (x : Int32) : ∃ j : Nat, j < 64 ∧ x &&& 63 = nI j := pk_andE x 6 (by decide)
set_option maxHeartbeats 4000000 in
set_option maxRecDepth 100000 in
theorem law_loop {Rel : Mem → Mem → Prop} (hops : Ops Rel) {z : Zx} {x : Lx} {sb : Nat} {a b : Nat → Nat} {L : Nat} {xs : Nat → Int32} (X : OK2 z x L xs) (hsb : x.2.2.2.2.2.2.2 = sb) (hL : L ≤ 3072) : ∀ (n k : Nat) (mc mm : Mem), k ≤ L + 5 → L + 6 - k ≤ n → Rel mc mm → G2 z x 108 4296 a b 17 mc mm 18 [(0, .ref sb), (1, .ref (a 0)), (2, .ref (b 0)), (3, .int (nI k))] [] := by
  intro n
  induction n with
  | zero => intro k mc mm h1 h2; omega
  | succ n ih =>
    intro k mc mm h1 h2 hR
    have next : ∀ mc2 mm2, k + 6 ≤ L → Rel mc2 mm2 → G2 z x 108 4296 a b 17 mc2 mm2 1617 [(0, .ref sb), (1, .ref (a 0)), (2, .ref (b 0)), (3, .int (nI k))] [] := by
      intro mc2 mm2 hk hR2
      refine q_iinc (v2 := nI (k + 6)) (lv2 := [(0, .ref sb), (1, .ref (a 0)), (2, .ref (b 0)), (3, .int (nI (k + 6)))]) (pc := 1617) X dL_law_1617 3 rfl (nI_add k 6) (by decide) [1, 2, 3, 0] rfl ?_
      refine q_goto (pc := 1620) (tgt := 18) X dL_law_1620 (by decide) ?_
      exact ih (k + 6) mc2 mm2 (by omega) (by omega) hR2
    have hsb2 := hsb
    subst hsb
    refine q_iload_n (pc := 18) X dL_law_18 rfl 3 rfl ?_
    refine q_aload_n (pc := 19) X dL_law_19 rfl 0 rfl ?_
    refine q_slen (pc := 20) X dL_law_20 ?_
    refine q_bipush (v := (6 : Int32)) (pc := 21) X dL_law_21 (by decide) ?_
    refine q_isub (pc := 23) X dL_law_23 ?_
    have hLs : (nI L - (6 : Int32)).toInt = (L : Int) - 6 := pk_sub_toInt (a := L) (b := 6) (by omega) (by decide)
    have hks : (nI k).toInt = (k : Int) := nI_toInt (by omega)
    refine q_icmp_gt (pc := 24) (tgt := 1623) X dL_law_24 (by decide) (fun hc => ?_) (fun hc => ?_)
    · refine q_iconst (v := (1 : Int32)) (pc := 1623) X dL_law_1623 (by decide) ?_
      exact q_ret (pc := 1624) X (by decide) (by decide) dL_law_1624
    · have hk : k + 6 ≤ L := by
        rw [Int32.lt_iff_toInt_lt, hLs, hks] at hc
        omega
      refine q_aload_n (pc := 27) X dL_law_27 rfl 0 rfl ?_
      refine q_iload_n (pc := 28) X dL_law_28 rfl 3 rfl ?_
      refine q_sld (pc := 29) X rfl (by omega) dL_law_29 ?_
      refine q_bipush (v := (63 : Int32)) (pc := 30) X dL_law_30 (by decide) ?_
      refine q_iand (pc := 32) X dL_law_32 ?_
      obtain ⟨j, hj, ej⟩ := and63 (xs k)
      rw [ej]
      obtain ⟨o0, o1, o2, o3, o4, o5, o6, o7, o8, o9, o10, o11, o12, o13, o14, o15, o16, o17, o18, o19, o20, o21, o22, o23, o24, o25, o26, o27, o28, o29, o30, o31, o32, o33, o34, o35, o36, o37, o38⟩ := hops
      by_cases j0 : j = 0
      · subst j0
        obtain ⟨r, mc2, mm2, hC, hM, hR2⟩ := o0 mc mm hR (xs (k + 1)) (xs (k + 2)) (xs (k + 3))
        refine q_tblIn (pc := 33) (tgt := 204) (off := 171) X dL_law_33 (by decide) (by decide) (by decide) (by decide) ?_
        exact law_c0 X rfl hk hC hM (next _ _ hk hR2)
      by_cases j1 : j = 1
      · subst j1
        obtain ⟨r, mc2, mm2, hC, hM, hR2⟩ := o1 mc mm hR (xs (k + 1)) (xs (k + 2)) (xs (k + 3))
        refine q_tblIn (pc := 33) (tgt := 248) (off := 215) X dL_law_33 (by decide) (by decide) (by decide) (by decide) ?_
        exact law_c1 X rfl hk hC hM (next _ _ hk hR2)
      by_cases j2 : j = 2
      · subst j2
        obtain ⟨r, mc2, mm2, hC, hM, hR2⟩ := o2 mc mm hR (xs (k + 1)) (xs (k + 2)) (xs (k + 3)) (xs (k + 4)) (xs (k + 5))
        refine q_tblIn (pc := 33) (tgt := 292) (off := 259) X dL_law_33 (by decide) (by decide) (by decide) (by decide) ?_
        exact law_c2 X rfl hk hC hM (next _ _ hk hR2)
      by_cases j3 : j = 3
      · subst j3
        obtain ⟨r, mc2, mm2, hC, hM, hR2⟩ := o3 mc mm hR (xs (k + 1))
        refine q_tblIn (pc := 33) (tgt := 356) (off := 323) X dL_law_33 (by decide) (by decide) (by decide) (by decide) ?_
        exact law_c3 X rfl hk hC hM (next _ _ hk hR2)
      by_cases j4 : j = 4
      · subst j4
        obtain ⟨r, mc2, mm2, hC, hM, hR2⟩ := o4 mc mm hR (xs (k + 1)) (xs (k + 2)) (xs (k + 3))
        refine q_tblIn (pc := 33) (tgt := 380) (off := 347) X dL_law_33 (by decide) (by decide) (by decide) (by decide) ?_
        exact law_c4 X rfl hk hC hM (next _ _ hk hR2)
      by_cases j5 : j = 5
      · subst j5
        obtain ⟨r, mc2, mm2, hC, hM, hR2⟩ := o5 mc mm hR 
        refine q_tblIn (pc := 33) (tgt := 444) (off := 411) X dL_law_33 (by decide) (by decide) (by decide) (by decide) ?_
        exact law_c5 X rfl hk hC hM (next _ _ hk hR2)
      by_cases j6 : j = 6
      · subst j6
        obtain ⟨r, mm2, hC, hM, hR2⟩ := o6 mc mm hR 
        refine q_tblIn (pc := 33) (tgt := 458) (off := 425) X dL_law_33 (by decide) (by decide) (by decide) (by decide) ?_
        exact law_c6 X rfl hk hC hM (next _ _ hk hR2)
      by_cases j7 : j = 7
      · subst j7
        obtain ⟨r, mc2, mm2, hC, hM, hR2⟩ := o7 mc mm hR (xs (k + 1)) (xs (k + 2)) (xs (k + 3))
        refine q_tblIn (pc := 33) (tgt := 471) (off := 438) X dL_law_33 (by decide) (by decide) (by decide) (by decide) ?_
        exact law_c7 X rfl hk hC hM (next _ _ hk hR2)
      by_cases j8 : j = 8
      · subst j8
        obtain ⟨r, mc2, mm2, hC, hM, hR2⟩ := o8 mc mm hR (xs (k + 1))
        refine q_tblIn (pc := 33) (tgt := 515) (off := 482) X dL_law_33 (by decide) (by decide) (by decide) (by decide) ?_
        exact law_c8 X rfl hk hC hM (next _ _ hk hR2)
      by_cases j9 : j = 9
      · subst j9
        obtain ⟨r, mc2, mm2, hC, hM, hR2⟩ := o9 mc mm hR (xs (k + 1)) (xs (k + 2)) (xs (k + 3))
        refine q_tblIn (pc := 33) (tgt := 539) (off := 506) X dL_law_33 (by decide) (by decide) (by decide) (by decide) ?_
        exact law_c9 X rfl hk hC hM (next _ _ hk hR2)
      by_cases j10 : j = 10
      · subst j10
        obtain ⟨r, mc2, mm2, hC, hM, hR2⟩ := o10 mc mm hR (xs (k + 1)) (xs (k + 2)) (xs (k + 3))
        refine q_tblIn (pc := 33) (tgt := 583) (off := 550) X dL_law_33 (by decide) (by decide) (by decide) (by decide) ?_
        exact law_c10 X rfl hk hC hM (next _ _ hk hR2)
      by_cases j11 : j = 11
      · subst j11
        obtain ⟨r, mm2, hC, hM, hR2⟩ := o11 mc mm hR (xs (k + 1))
        refine q_tblIn (pc := 33) (tgt := 627) (off := 594) X dL_law_33 (by decide) (by decide) (by decide) (by decide) ?_
        exact law_c11 X rfl hk hC hM (next _ _ hk hR2)
      by_cases j12 : j = 12
      · subst j12
        obtain ⟨r, mc2, mm2, hC, hM, hR2⟩ := o12 mc mm hR (xs (k + 1)) (xs (k + 2)) (xs (k + 3)) (xs (k + 4)) (xs (k + 5))
        refine q_tblIn (pc := 33) (tgt := 651) (off := 618) X dL_law_33 (by decide) (by decide) (by decide) (by decide) ?_
        exact law_c12 X rfl hk hC hM (next _ _ hk hR2)
      by_cases j13 : j = 13
      · subst j13
        obtain ⟨r, mc2, mm2, hC, hM, hR2⟩ := o13 mc mm hR (xs (k + 1)) (xs (k + 2))
        refine q_tblIn (pc := 33) (tgt := 715) (off := 682) X dL_law_33 (by decide) (by decide) (by decide) (by decide) ?_
        exact law_c13 X rfl hk hC hM (next _ _ hk hR2)
      by_cases j14 : j = 14
      · subst j14
        obtain ⟨r, mc2, mm2, hC, hM, hR2⟩ := o14 mc mm hR (xs (k + 1)) (xs (k + 2)) (xs (k + 3))
        refine q_tblIn (pc := 33) (tgt := 749) (off := 716) X dL_law_33 (by decide) (by decide) (by decide) (by decide) ?_
        exact law_c14 X rfl hk hC hM (next _ _ hk hR2)
      by_cases j15 : j = 15
      · subst j15
        obtain ⟨r, mc2, mm2, hC, hM, hR2⟩ := o15 mc mm hR (xs (k + 1)) (xs (k + 2)) (xs (k + 3)) (xs (k + 4)) (xs (k + 5))
        refine q_tblIn (pc := 33) (tgt := 793) (off := 760) X dL_law_33 (by decide) (by decide) (by decide) (by decide) ?_
        exact law_c15 X rfl hk hC hM (next _ _ hk hR2)
      by_cases j16 : j = 16
      · subst j16
        obtain ⟨r, mc2, mm2, hC, hM, hR2⟩ := o16 mc mm hR (xs (k + 1)) (xs (k + 2)) (xs (k + 3))
        refine q_tblIn (pc := 33) (tgt := 857) (off := 824) X dL_law_33 (by decide) (by decide) (by decide) (by decide) ?_
        exact law_c16 X rfl hk hC hM (next _ _ hk hR2)
      by_cases j17 : j = 17
      · subst j17
        obtain ⟨r, mm2, hC, hM, hR2⟩ := o17 mc mm hR (xs (k + 1)) (xs (k + 2)) (xs (k + 3))
        refine q_tblIn (pc := 33) (tgt := 901) (off := 868) X dL_law_33 (by decide) (by decide) (by decide) (by decide) ?_
        exact law_c17 X rfl hk hC hM (next _ _ hk hR2)
      by_cases j18 : j = 18
      · subst j18
        obtain ⟨r, mm2, hC, hM, hR2⟩ := o18 mc mm hR (xs (k + 1)) (xs (k + 2)) (xs (k + 3))
        refine q_tblIn (pc := 33) (tgt := 945) (off := 912) X dL_law_33 (by decide) (by decide) (by decide) (by decide) ?_
        exact law_c18 X rfl hk hC hM (next _ _ hk hR2)
      by_cases j19 : j = 19
      · subst j19
        obtain ⟨r, mm2, hC, hM, hR2⟩ := o19 mc mm hR (xs (k + 1))
        refine q_tblIn (pc := 33) (tgt := 989) (off := 956) X dL_law_33 (by decide) (by decide) (by decide) (by decide) ?_
        exact law_c19 X rfl hk hC hM (next _ _ hk hR2)
      by_cases j20 : j = 20
      · subst j20
        obtain ⟨r, mm2, hC, hM, hR2⟩ := o20 mc mm hR (xs (k + 1)) (xs (k + 2)) (xs (k + 3)) (xs (k + 4))
        refine q_tblIn (pc := 33) (tgt := 1013) (off := 980) X dL_law_33 (by decide) (by decide) (by decide) (by decide) ?_
        exact law_c20 X rfl hk hC hM (next _ _ hk hR2)
      by_cases j21 : j = 21
      · subst j21
        obtain ⟨r, mm2, hC, hM, hR2⟩ := o21 mc mm hR (xs (k + 1)) (xs (k + 2)) (xs (k + 3)) (xs (k + 4)) (xs (k + 5))
        refine q_tblIn (pc := 33) (tgt := 1067) (off := 1034) X dL_law_33 (by decide) (by decide) (by decide) (by decide) ?_
        exact law_c21 X rfl hk hC hM (next _ _ hk hR2)
      by_cases j22 : j = 22
      · subst j22
        obtain ⟨r, mm2, hC, hM, hR2⟩ := o22 mc mm hR (xs (k + 1)) (xs (k + 2)) (xs (k + 3))
        refine q_tblIn (pc := 33) (tgt := 1131) (off := 1098) X dL_law_33 (by decide) (by decide) (by decide) (by decide) ?_
        exact law_c22 X rfl hk hC hM (next _ _ hk hR2)
      by_cases j23 : j = 23
      · subst j23
        obtain ⟨r, mm2, hC, hM, hR2⟩ := o23 mc mm hR (xs (k + 1))
        refine q_tblIn (pc := 33) (tgt := 1175) (off := 1142) X dL_law_33 (by decide) (by decide) (by decide) (by decide) ?_
        exact law_c23 X rfl hk hC hM (next _ _ hk hR2)
      by_cases j24 : j = 24
      · subst j24
        obtain ⟨r, mm2, hC, hM, hR2⟩ := o24 mc mm hR (xs (k + 1)) (xs (k + 2))
        refine q_tblIn (pc := 33) (tgt := 1199) (off := 1166) X dL_law_33 (by decide) (by decide) (by decide) (by decide) ?_
        exact law_c24 X rfl hk hC hM (next _ _ hk hR2)
      by_cases j25 : j = 25
      · subst j25
        obtain ⟨r, mm2, hC, hM, hR2⟩ := o25 mc mm hR (xs (k + 1))
        refine q_tblIn (pc := 33) (tgt := 1233) (off := 1200) X dL_law_33 (by decide) (by decide) (by decide) (by decide) ?_
        exact law_c25 X rfl hk hC hM (next _ _ hk hR2)
      by_cases j26 : j = 26
      · subst j26
        obtain ⟨r, mm2, hC, hM, hR2⟩ := o26 mc mm hR (xs (k + 1))
        refine q_tblIn (pc := 33) (tgt := 1257) (off := 1224) X dL_law_33 (by decide) (by decide) (by decide) (by decide) ?_
        exact law_c26 X rfl hk hC hM (next _ _ hk hR2)
      by_cases j27 : j = 27
      · subst j27
        obtain ⟨r, mm2, hC, hM, hR2⟩ := o27 mc mm hR (xs (k + 1)) (xs (k + 2)) (xs (k + 3))
        refine q_tblIn (pc := 33) (tgt := 1281) (off := 1248) X dL_law_33 (by decide) (by decide) (by decide) (by decide) ?_
        exact law_c27 X rfl hk hC hM (next _ _ hk hR2)
      by_cases j28 : j = 28
      · subst j28
        obtain ⟨r, mm2, hC, hM, hR2⟩ := o28 mc mm hR (xs (k + 1))
        refine q_tblIn (pc := 33) (tgt := 1325) (off := 1292) X dL_law_33 (by decide) (by decide) (by decide) (by decide) ?_
        exact law_c28 X rfl hk hC hM (next _ _ hk hR2)
      by_cases j29 : j = 29
      · subst j29
        obtain ⟨r, mm2, hC, hM, hR2⟩ := o29 mc mm hR (xs (k + 1)) (xs (k + 2)) (xs (k + 3))
        refine q_tblIn (pc := 33) (tgt := 1349) (off := 1316) X dL_law_33 (by decide) (by decide) (by decide) (by decide) ?_
        exact law_c29 X rfl hk hC hM (next _ _ hk hR2)
      by_cases j30 : j = 30
      · subst j30
        obtain ⟨r, mm2, hC, hM, hR2⟩ := o30 mc mm hR (xs (k + 1))
        refine q_tblIn (pc := 33) (tgt := 1393) (off := 1360) X dL_law_33 (by decide) (by decide) (by decide) (by decide) ?_
        exact law_c30 X rfl hk hC hM (next _ _ hk hR2)
      by_cases j31 : j = 31
      · subst j31
        obtain ⟨r, mc2, mm2, hC, hM, hR2⟩ := o31 mc mm hR (xs (k + 1))
        refine q_tblIn (pc := 33) (tgt := 1417) (off := 1384) X dL_law_33 (by decide) (by decide) (by decide) (by decide) ?_
        exact law_c31 X rfl hk hC hM (next _ _ hk hR2)
      by_cases j32 : j = 32
      · subst j32
        obtain ⟨r, mc2, mm2, hC, hM, hR2⟩ := o32 mc mm hR (xs (k + 1))
        refine q_tblIn (pc := 33) (tgt := 1441) (off := 1408) X dL_law_33 (by decide) (by decide) (by decide) (by decide) ?_
        exact law_c32 X rfl hk hC hM (next _ _ hk hR2)
      by_cases j33 : j = 33
      · subst j33
        obtain ⟨r, mm2, hC, hM, hR2⟩ := o33 mc mm hR (xs (k + 1))
        refine q_tblIn (pc := 33) (tgt := 1465) (off := 1432) X dL_law_33 (by decide) (by decide) (by decide) (by decide) ?_
        exact law_c33 X rfl hk hC hM (next _ _ hk hR2)
      by_cases j34 : j = 34
      · subst j34
        obtain ⟨r, mc2, mm2, hC, hM, hR2⟩ := o34 mc mm hR (xs (k + 1)) (xs (k + 2))
        refine q_tblIn (pc := 33) (tgt := 1489) (off := 1456) X dL_law_33 (by decide) (by decide) (by decide) (by decide) ?_
        exact law_c34 X rfl hk hC hM (next _ _ hk hR2)
      by_cases j35 : j = 35
      · subst j35
        obtain ⟨r, mc2, mm2, hC, hM, hR2⟩ := o35 mc mm hR (xs (k + 1)) (xs (k + 2))
        refine q_tblIn (pc := 33) (tgt := 1523) (off := 1490) X dL_law_33 (by decide) (by decide) (by decide) (by decide) ?_
        exact law_c35 X rfl hk hC hM (next _ _ hk hR2)
      by_cases j36 : j = 36
      · subst j36
        obtain ⟨r, mm2, hC, hM, hR2⟩ := o36 mc mm hR (xs (k + 1))
        refine q_tblIn (pc := 33) (tgt := 1557) (off := 1524) X dL_law_33 (by decide) (by decide) (by decide) (by decide) ?_
        exact law_c36 X rfl hk hC hM (next _ _ hk hR2)
      by_cases j37 : j = 37
      · subst j37
        obtain ⟨r, mm2, hC, hM, hR2⟩ := o37 mc mm hR (xs (k + 1))
        refine q_tblIn (pc := 33) (tgt := 1580) (off := 1547) X dL_law_33 (by decide) (by decide) (by decide) (by decide) ?_
        exact law_c37 X rfl hk hC hM (next _ _ hk hR2)
      by_cases j38 : j = 38
      · subst j38
        obtain ⟨r, mm2, hC, hM, hR2⟩ := o38 mc mm hR 
        refine q_tblIn (pc := 33) (tgt := 1604) (off := 1571) X dL_law_33 (by decide) (by decide) (by decide) (by decide) ?_
        exact law_c38 X rfl hk hC hM (next _ _ hk hR2)
      refine q_tblOut (pc := 33) (tgt := 1617) X dL_law_33 (Or.inr ?_) (by decide) (next _ _ hk hR)
      rw [nI_toInt (by omega)]
      omega
