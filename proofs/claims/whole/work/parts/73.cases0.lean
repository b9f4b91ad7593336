set_option maxRecDepth 20000 in
theorem la_next {G : Gh} {l : Launch} {b L i : Nat} {xs : Nat → Int32} {σ : St} (K : LG G l b L xs 18 [some (.ref b), some (.ref (ad G 0)), some (.ref (ad G 51)), some (vi ((i + 6 : Nat) : Int))] [] σ) : LG G l b L xs 1564 [some (.ref b), some (.ref (ad G 0)), some (.ref (ad G 51)), some (vi (i : Int))] [] σ := by
  have e : vi ((i + 6 : Nat) : Int) = vi ((i : Int) + 6) := by rw [Int.natCast_add]; rfl
  rw [e] at K
  refine gw_iinc (pc' := 1567) (x := (i : Int)) (Lc' := [some (.ref b), some (.ref (ad G 0)), some (.ref (ad G 51)), some (vi ((i : Int) + 6))]) dL_law_1564 rfl (by decide) rfl rfl rfl ?_
  exact gw_goto dL_law_1567 (by decide) K
set_option maxRecDepth 20000 in
theorem ca_feed {G : Gh} {l : Launch} {b L i : Nat} {xs : Nat → Int32} {σ : St} {A : Ab} (h4 : L ≤ 384) (hi : i + 6 ≤ L) (ok : OKA A) (vc : Vc σ A) (vm : Vm σ A) (K : ∀ τ B, OKA B → Vc τ B → Vm τ B → LG G l b L xs 18 [some (.ref b), some (.ref (ad G 0)), some (.ref (ad G 51)), some (vi ((i + 6 : Nat) : Int))] [] τ) : LG G l b L xs 216 [some (.ref b), some (.ref (ad G 0)), some (.ref (ad G 51)), some (vi (i : Int))] [] σ := by
  obtain ⟨σ1, σ2, a1, a2, a3, a4, a5⟩ := Op.go (o_feed (sc_ir xs (i + 1))) ok vc vm
  have M1 := m_X4_feed (G := G) (l := l) (sc xs (i + 1)) σ
  have M2 := m_X5_feed (G := G) (l := l) (sc xs (i + 1)) σ1
  rw [a1] at M1
  rw [a2] at M2
  refine gw_aload_n (pc' := 217) dL_law_216 rfl rfl ?_
  refine gw_aload_n (pc' := 218) dL_law_217 rfl rfl ?_
  refine gw_iload_n (pc' := 219) dL_law_218 rfl rfl ?_
  refine gw_iconst (pc' := 220) dL_law_219 rfl ?_
  refine gw_iadd (pc' := 221) dL_law_220 rfl ?_
  refine gw_sld (j := i + 1) (pc' := 222) (by omega) (by omega) h4 dL_law_221 rfl ?_
  refine gw_call (pc' := 225) (As := [vi (sc xs (i + 1))]) (rest := []) dL_law_222 cv_L_13 tbk_0 M1 rfl rfl rfl rfl rfl ?_
  refine gw_aload_n (pc' := 226) dL_law_225 rfl rfl ?_
  refine gw_aload_n (pc' := 227) dL_law_226 rfl rfl ?_
  refine gw_iload_n (pc' := 228) dL_law_227 rfl rfl ?_
  refine gw_iconst (pc' := 229) dL_law_228 rfl ?_
  refine gw_iadd (pc' := 230) dL_law_229 rfl ?_
  refine gw_sld (j := i + 1) (pc' := 231) (by omega) (by omega) h4 dL_law_230 rfl ?_
  refine gw_call (pc' := 234) (As := [vi (sc xs (i + 1))]) (rest := [vi _]) dL_law_231 cv_L_17 tbk_51 M2 rfl rfl rfl rfl rfl ?_
  refine gw_eq (tgt := 1564) dL_law_234 (by decide) ?_
  exact la_next (K σ2 _ a3 a4 a5)
set_option maxRecDepth 20000 in
theorem ca_end {G : Gh} {l : Launch} {b L i : Nat} {xs : Nat → Int32} {σ : St} {A : Ab} (h4 : L ≤ 384) (hi : i + 6 ≤ L) (ok : OKA A) (vc : Vc σ A) (vm : Vm σ A) (K : ∀ τ B, OKA B → Vc τ B → Vm τ B → LG G l b L xs 18 [some (.ref b), some (.ref (ad G 0)), some (.ref (ad G 51)), some (vi ((i + 6 : Nat) : Int))] [] τ) : LG G l b L xs 239 [some (.ref b), some (.ref (ad G 0)), some (.ref (ad G 51)), some (vi (i : Int))] [] σ := by
  obtain ⟨σ1, σ2, a1, a2, a3, a4, a5⟩ := Op.go (o_end (sc_ir xs (i + 1))) ok vc vm
  have M1 := m_X4_end (G := G) (l := l) (sc xs (i + 1)) σ
  have M2 := m_X5_end (G := G) (l := l) (sc xs (i + 1)) σ1
  rw [a1] at M1
  rw [a2] at M2
  refine gw_aload_n (pc' := 240) dL_law_239 rfl rfl ?_
  refine gw_aload_n (pc' := 241) dL_law_240 rfl rfl ?_
  refine gw_iload_n (pc' := 242) dL_law_241 rfl rfl ?_
  refine gw_iconst (pc' := 243) dL_law_242 rfl ?_
  refine gw_iadd (pc' := 244) dL_law_243 rfl ?_
  refine gw_sld (j := i + 1) (pc' := 245) (by omega) (by omega) h4 dL_law_244 rfl ?_
  refine gw_call (pc' := 248) (As := [vi (sc xs (i + 1))]) (rest := []) dL_law_245 cv_L_18 tbk_0 M1 rfl rfl rfl rfl rfl ?_
  refine gw_aload_n (pc' := 249) dL_law_248 rfl rfl ?_
  refine gw_aload_n (pc' := 250) dL_law_249 rfl rfl ?_
  refine gw_iload_n (pc' := 251) dL_law_250 rfl rfl ?_
  refine gw_iconst (pc' := 252) dL_law_251 rfl ?_
  refine gw_iadd (pc' := 253) dL_law_252 rfl ?_
  refine gw_sld (j := i + 1) (pc' := 254) (by omega) (by omega) h4 dL_law_253 rfl ?_
  refine gw_call (pc' := 257) (As := [vi (sc xs (i + 1))]) (rest := [vi _]) dL_law_254 cv_L_21 tbk_51 M2 rfl rfl rfl rfl rfl ?_
  refine gw_eq (tgt := 1564) dL_law_257 (by decide) ?_
  exact la_next (K σ2 _ a3 a4 a5)
set_option maxRecDepth 20000 in
theorem ca_text {G : Gh} {l : Launch} {b L i : Nat} {xs : Nat → Int32} {σ : St} {A : Ab} (h4 : L ≤ 384) (hi : i + 6 ≤ L) (ok : OKA A) (vc : Vc σ A) (vm : Vm σ A) (K : ∀ τ B, OKA B → Vc τ B → Vm τ B → LG G l b L xs 18 [some (.ref b), some (.ref (ad G 0)), some (.ref (ad G 51)), some (vi ((i + 6 : Nat) : Int))] [] τ) : LG G l b L xs 262 [some (.ref b), some (.ref (ad G 0)), some (.ref (ad G 51)), some (vi (i : Int))] [] σ := by
  obtain ⟨σ1, σ2, a1, a2, a3, a4, a5⟩ := Op.go op_text ok vc vm
  have M1 := m_X4_text (G := G) (l := l)  σ
  have M2 := m_X5_text (G := G) (l := l)  σ1
  rw [a1] at M1
  rw [a2] at M2
  refine gw_aload_n (pc' := 263) dL_law_262 rfl rfl ?_
  refine gw_call (pc' := 266) (As := []) (rest := []) dL_law_263 cv_L_22 tbk_0 M1 rfl rfl rfl rfl rfl ?_
  refine gw_aload_n (pc' := 267) dL_law_266 rfl rfl ?_
  refine gw_call (pc' := 270) (As := []) (rest := [vi _]) dL_law_267 cv_L_26 tbk_51 M2 rfl rfl rfl rfl rfl ?_
  refine gw_eq (tgt := 1564) dL_law_270 (by decide) ?_
  exact la_next (K σ2 _ a3 a4 a5)
set_option maxRecDepth 20000 in
theorem ca_fault {G : Gh} {l : Launch} {b L i : Nat} {xs : Nat → Int32} {σ : St} {A : Ab} (h4 : L ≤ 384) (hi : i + 6 ≤ L) (ok : OKA A) (vc : Vc σ A) (vm : Vm σ A) (K : ∀ τ B, OKA B → Vc τ B → Vm τ B → LG G l b L xs 18 [some (.ref b), some (.ref (ad G 0)), some (.ref (ad G 51)), some (vi ((i + 6 : Nat) : Int))] [] τ) : LG G l b L xs 275 [some (.ref b), some (.ref (ad G 0)), some (.ref (ad G 51)), some (vi (i : Int))] [] σ := by
  obtain ⟨σ1, σ2, a1, a2, a3, a4, a5⟩ := Op.go o_fault ok vc vm
  have M1 := m_X4_fault (G := G) (l := l)  σ
  have M2 := m_X5_fault (G := G) (l := l)  σ1
  rw [a1] at M1
  rw [a2] at M2
  refine gw_aload_n (pc' := 276) dL_law_275 rfl rfl ?_
  refine gw_call (pc' := 279) (As := []) (rest := []) dL_law_276 cv_L_27 tbk_0 M1 rfl rfl rfl rfl rfl ?_
  refine gw_aload_n (pc' := 280) dL_law_279 rfl rfl ?_
  refine gw_call (pc' := 283) (As := []) (rest := [vi _]) dL_law_280 cv_L_30 tbk_51 M2 rfl rfl rfl rfl rfl ?_
  refine gw_eq (tgt := 1564) dL_law_283 (by decide) ?_
  exact la_next (K σ2 _ a3 a4 a5)
set_option maxRecDepth 20000 in
theorem ca_rule {G : Gh} {l : Launch} {b L i : Nat} {xs : Nat → Int32} {σ : St} {A : Ab} (h4 : L ≤ 384) (hi : i + 6 ≤ L) (ok : OKA A) (vc : Vc σ A) (vm : Vm σ A) (K : ∀ τ B, OKA B → Vc τ B → Vm τ B → LG G l b L xs 18 [some (.ref b), some (.ref (ad G 0)), some (.ref (ad G 51)), some (vi ((i + 6 : Nat) : Int))] [] τ) : LG G l b L xs 288 [some (.ref b), some (.ref (ad G 0)), some (.ref (ad G 51)), some (vi (i : Int))] [] σ := by
  obtain ⟨σ1, σ2, a1, a2, a3, a4, a5⟩ := Op.go (q_rule (sc_ir xs (i + 1))).op ok vc vm
  have M1 := m_X4_rule (G := G) (l := l) (sc xs (i + 1)) σ
  have M2 := m_X5_rule (G := G) (l := l) (sc xs (i + 1)) σ1
  rw [a1] at M1
  rw [a2] at M2
  refine gw_aload_n (pc' := 289) dL_law_288 rfl rfl ?_
  refine gw_aload_n (pc' := 290) dL_law_289 rfl rfl ?_
  refine gw_iload_n (pc' := 291) dL_law_290 rfl rfl ?_
  refine gw_iconst (pc' := 292) dL_law_291 rfl ?_
  refine gw_iadd (pc' := 293) dL_law_292 rfl ?_
  refine gw_sld (j := i + 1) (pc' := 294) (by omega) (by omega) h4 dL_law_293 rfl ?_
  refine gw_call (pc' := 297) (As := [vi (sc xs (i + 1))]) (rest := []) dL_law_294 cv_L_31 tbk_0 M1 rfl rfl rfl rfl rfl ?_
  refine gw_aload_n (pc' := 298) dL_law_297 rfl rfl ?_
  refine gw_aload_n (pc' := 299) dL_law_298 rfl rfl ?_
  refine gw_iload_n (pc' := 300) dL_law_299 rfl rfl ?_
  refine gw_iconst (pc' := 301) dL_law_300 rfl ?_
  refine gw_iadd (pc' := 302) dL_law_301 rfl ?_
  refine gw_sld (j := i + 1) (pc' := 303) (by omega) (by omega) h4 dL_law_302 rfl ?_
  refine gw_call (pc' := 306) (As := [vi (sc xs (i + 1))]) (rest := [vi _]) dL_law_303 cv_L_34 tbk_51 M2 rfl rfl rfl rfl rfl ?_
  refine gw_eq (tgt := 1564) dL_law_306 (by decide) ?_
  exact la_next (K σ2 _ a3 a4 a5)
set_option maxRecDepth 20000 in
theorem ca_rider {G : Gh} {l : Launch} {b L i : Nat} {xs : Nat → Int32} {σ : St} {A : Ab} (h4 : L ≤ 384) (hi : i + 6 ≤ L) (ok : OKA A) (vc : Vc σ A) (vm : Vm σ A) (K : ∀ τ B, OKA B → Vc τ B → Vm τ B → LG G l b L xs 18 [some (.ref b), some (.ref (ad G 0)), some (.ref (ad G 51)), some (vi ((i + 6 : Nat) : Int))] [] τ) : LG G l b L xs 311 [some (.ref b), some (.ref (ad G 0)), some (.ref (ad G 51)), some (vi (i : Int))] [] σ := by
  obtain ⟨σ1, σ2, a1, a2, a3, a4, a5⟩ := Op.go (q_rider (sc_ir xs (i + 1)) (sc_ir xs (i + 2))).op ok vc vm
  have M1 := m_X4_rider (G := G) (l := l) (sc xs (i + 1)) (sc xs (i + 2)) σ
  have M2 := m_X5_rider (G := G) (l := l) (sc xs (i + 1)) (sc xs (i + 2)) σ1
  rw [a1] at M1
  rw [a2] at M2
  refine gw_aload_n (pc' := 312) dL_law_311 rfl rfl ?_
  refine gw_aload_n (pc' := 313) dL_law_312 rfl rfl ?_
  refine gw_iload_n (pc' := 314) dL_law_313 rfl rfl ?_
  refine gw_iconst (pc' := 315) dL_law_314 rfl ?_
  refine gw_iadd (pc' := 316) dL_law_315 rfl ?_
  refine gw_sld (j := i + 1) (pc' := 317) (by omega) (by omega) h4 dL_law_316 rfl ?_
  refine gw_aload_n (pc' := 318) dL_law_317 rfl rfl ?_
  refine gw_iload_n (pc' := 319) dL_law_318 rfl rfl ?_
  refine gw_iconst (pc' := 320) dL_law_319 rfl ?_
  refine gw_iadd (pc' := 321) dL_law_320 rfl ?_
  refine gw_sld (j := i + 2) (pc' := 322) (by omega) (by omega) h4 dL_law_321 rfl ?_
  refine gw_call (pc' := 325) (As := [vi (sc xs (i + 1)), vi (sc xs (i + 2))]) (rest := []) dL_law_322 cv_L_35 tbk_0 M1 rfl rfl rfl rfl rfl ?_
  refine gw_aload_n (pc' := 326) dL_law_325 rfl rfl ?_
  refine gw_aload_n (pc' := 327) dL_law_326 rfl rfl ?_
  refine gw_iload_n (pc' := 328) dL_law_327 rfl rfl ?_
  refine gw_iconst (pc' := 329) dL_law_328 rfl ?_
  refine gw_iadd (pc' := 330) dL_law_329 rfl ?_
  refine gw_sld (j := i + 1) (pc' := 331) (by omega) (by omega) h4 dL_law_330 rfl ?_
  refine gw_aload_n (pc' := 332) dL_law_331 rfl rfl ?_
  refine gw_iload_n (pc' := 333) dL_law_332 rfl rfl ?_
  refine gw_iconst (pc' := 334) dL_law_333 rfl ?_
  refine gw_iadd (pc' := 335) dL_law_334 rfl ?_
  refine gw_sld (j := i + 2) (pc' := 336) (by omega) (by omega) h4 dL_law_335 rfl ?_
  refine gw_call (pc' := 339) (As := [vi (sc xs (i + 1)), vi (sc xs (i + 2))]) (rest := [vi _]) dL_law_336 cv_L_39 tbk_51 M2 rfl rfl rfl rfl rfl ?_
  refine gw_eq (tgt := 1564) dL_law_339 (by decide) ?_
  exact la_next (K σ2 _ a3 a4 a5)
set_option maxRecDepth 20000 in
theorem ca_report {G : Gh} {l : Launch} {b L i : Nat} {xs : Nat → Int32} {σ : St} {A : Ab} (h4 : L ≤ 384) (hi : i + 6 ≤ L) (ok : OKA A) (vc : Vc σ A) (vm : Vm σ A) (K : ∀ τ B, OKA B → Vc τ B → Vm τ B → LG G l b L xs 18 [some (.ref b), some (.ref (ad G 0)), some (.ref (ad G 51)), some (vi ((i + 6 : Nat) : Int))] [] τ) : LG G l b L xs 344 [some (.ref b), some (.ref (ad G 0)), some (.ref (ad G 51)), some (vi (i : Int))] [] σ := by
  obtain ⟨σ1, σ2, a1, a2, a3, a4, a5⟩ := Op.go (q_report (sc_ir xs (i + 1)) (sc_ir xs (i + 2))).op ok vc vm
  have M1 := m_X4_report (G := G) (l := l) (sc xs (i + 1)) (sc xs (i + 2)) σ
  have M2 := m_X5_report (G := G) (l := l) (sc xs (i + 1)) (sc xs (i + 2)) σ1
  rw [a1] at M1
  rw [a2] at M2
  refine gw_aload_n (pc' := 345) dL_law_344 rfl rfl ?_
  refine gw_aload_n (pc' := 346) dL_law_345 rfl rfl ?_
  refine gw_iload_n (pc' := 347) dL_law_346 rfl rfl ?_
  refine gw_iconst (pc' := 348) dL_law_347 rfl ?_
  refine gw_iadd (pc' := 349) dL_law_348 rfl ?_
  refine gw_sld (j := i + 1) (pc' := 350) (by omega) (by omega) h4 dL_law_349 rfl ?_
  refine gw_aload_n (pc' := 351) dL_law_350 rfl rfl ?_
  refine gw_iload_n (pc' := 352) dL_law_351 rfl rfl ?_
  refine gw_iconst (pc' := 353) dL_law_352 rfl ?_
  refine gw_iadd (pc' := 354) dL_law_353 rfl ?_
  refine gw_sld (j := i + 2) (pc' := 355) (by omega) (by omega) h4 dL_law_354 rfl ?_
  refine gw_call (pc' := 358) (As := [vi (sc xs (i + 1)), vi (sc xs (i + 2))]) (rest := []) dL_law_355 cv_L_40 tbk_0 M1 rfl rfl rfl rfl rfl ?_
  refine gw_aload_n (pc' := 359) dL_law_358 rfl rfl ?_
  refine gw_aload_n (pc' := 360) dL_law_359 rfl rfl ?_
  refine gw_iload_n (pc' := 361) dL_law_360 rfl rfl ?_
  refine gw_iconst (pc' := 362) dL_law_361 rfl ?_
  refine gw_iadd (pc' := 363) dL_law_362 rfl ?_
  refine gw_sld (j := i + 1) (pc' := 364) (by omega) (by omega) h4 dL_law_363 rfl ?_
  refine gw_aload_n (pc' := 365) dL_law_364 rfl rfl ?_
  refine gw_iload_n (pc' := 366) dL_law_365 rfl rfl ?_
  refine gw_iconst (pc' := 367) dL_law_366 rfl ?_
  refine gw_iadd (pc' := 368) dL_law_367 rfl ?_
  refine gw_sld (j := i + 2) (pc' := 369) (by omega) (by omega) h4 dL_law_368 rfl ?_
  refine gw_call (pc' := 372) (As := [vi (sc xs (i + 1)), vi (sc xs (i + 2))]) (rest := [vi _]) dL_law_369 cv_L_43 tbk_51 M2 rfl rfl rfl rfl rfl ?_
  refine gw_eq (tgt := 1564) dL_law_372 (by decide) ?_
  exact la_next (K σ2 _ a3 a4 a5)
set_option maxRecDepth 20000 in
theorem ca_trust {G : Gh} {l : Launch} {b L i : Nat} {xs : Nat → Int32} {σ : St} {A : Ab} (h4 : L ≤ 384) (hi : i + 6 ≤ L) (ok : OKA A) (vc : Vc σ A) (vm : Vm σ A) (K : ∀ τ B, OKA B → Vc τ B → Vm τ B → LG G l b L xs 18 [some (.ref b), some (.ref (ad G 0)), some (.ref (ad G 51)), some (vi ((i + 6 : Nat) : Int))] [] τ) : LG G l b L xs 377 [some (.ref b), some (.ref (ad G 0)), some (.ref (ad G 51)), some (vi (i : Int))] [] σ := by
  obtain ⟨σ1, σ2, a1, a2, a3, a4, a5⟩ := Op.go (q_trust (sc_ir xs (i + 1))).op ok vc vm
  have M1 := m_X4_trust (G := G) (l := l) (sc xs (i + 1)) σ
  have M2 := m_X5_trust (G := G) (l := l) (sc xs (i + 1)) σ1
  rw [a1] at M1
  rw [a2] at M2
  refine gw_aload_n (pc' := 378) dL_law_377 rfl rfl ?_
  refine gw_aload_n (pc' := 379) dL_law_378 rfl rfl ?_
  refine gw_iload_n (pc' := 380) dL_law_379 rfl rfl ?_
  refine gw_iconst (pc' := 381) dL_law_380 rfl ?_
  refine gw_iadd (pc' := 382) dL_law_381 rfl ?_
  refine gw_sld (j := i + 1) (pc' := 383) (by omega) (by omega) h4 dL_law_382 rfl ?_
  refine gw_call (pc' := 386) (As := [vi (sc xs (i + 1))]) (rest := []) dL_law_383 cv_L_44 tbk_0 M1 rfl rfl rfl rfl rfl ?_
  refine gw_aload_n (pc' := 387) dL_law_386 rfl rfl ?_
  refine gw_aload_n (pc' := 388) dL_law_387 rfl rfl ?_
  refine gw_iload_n (pc' := 389) dL_law_388 rfl rfl ?_
  refine gw_iconst (pc' := 390) dL_law_389 rfl ?_
  refine gw_iadd (pc' := 391) dL_law_390 rfl ?_
  refine gw_sld (j := i + 1) (pc' := 392) (by omega) (by omega) h4 dL_law_391 rfl ?_
  refine gw_call (pc' := 395) (As := [vi (sc xs (i + 1))]) (rest := [vi _]) dL_law_392 cv_L_47 tbk_51 M2 rfl rfl rfl rfl rfl ?_
  refine gw_eq (tgt := 1564) dL_law_395 (by decide) ?_
  exact la_next (K σ2 _ a3 a4 a5)
set_option maxRecDepth 20000 in
theorem ca_told {G : Gh} {l : Launch} {b L i : Nat} {xs : Nat → Int32} {σ : St} {A : Ab} (h4 : L ≤ 384) (hi : i + 6 ≤ L) (ok : OKA A) (vc : Vc σ A) (vm : Vm σ A) (K : ∀ τ B, OKA B → Vc τ B → Vm τ B → LG G l b L xs 18 [some (.ref b), some (.ref (ad G 0)), some (.ref (ad G 51)), some (vi ((i + 6 : Nat) : Int))] [] τ) : LG G l b L xs 400 [some (.ref b), some (.ref (ad G 0)), some (.ref (ad G 51)), some (vi (i : Int))] [] σ := by
  obtain ⟨σ1, σ2, a1, a2, a3, a4, a5⟩ := Op.go (q_told (sc_ir xs (i + 1)) (sc_ir xs (i + 2)) (sc_ir xs (i + 3))).op ok vc vm
  have M1 := m_X4_told (G := G) (l := l) (sc xs (i + 1)) (sc xs (i + 2)) (sc xs (i + 3)) σ
  have M2 := m_X5_told (G := G) (l := l) (sc xs (i + 1)) (sc xs (i + 2)) (sc xs (i + 3)) σ1
  rw [a1] at M1
  rw [a2] at M2
  refine gw_aload_n (pc' := 401) dL_law_400 rfl rfl ?_
  refine gw_aload_n (pc' := 402) dL_law_401 rfl rfl ?_
  refine gw_iload_n (pc' := 403) dL_law_402 rfl rfl ?_
  refine gw_iconst (pc' := 404) dL_law_403 rfl ?_
  refine gw_iadd (pc' := 405) dL_law_404 rfl ?_
  refine gw_sld (j := i + 1) (pc' := 406) (by omega) (by omega) h4 dL_law_405 rfl ?_
  refine gw_aload_n (pc' := 407) dL_law_406 rfl rfl ?_
  refine gw_iload_n (pc' := 408) dL_law_407 rfl rfl ?_
  refine gw_iconst (pc' := 409) dL_law_408 rfl ?_
  refine gw_iadd (pc' := 410) dL_law_409 rfl ?_
  refine gw_sld (j := i + 2) (pc' := 411) (by omega) (by omega) h4 dL_law_410 rfl ?_
  refine gw_aload_n (pc' := 412) dL_law_411 rfl rfl ?_
  refine gw_iload_n (pc' := 413) dL_law_412 rfl rfl ?_
  refine gw_iconst (pc' := 414) dL_law_413 rfl ?_
  refine gw_iadd (pc' := 415) dL_law_414 rfl ?_
  refine gw_sld (j := i + 3) (pc' := 416) (by omega) (by omega) h4 dL_law_415 rfl ?_
  refine gw_call (pc' := 419) (As := [vi (sc xs (i + 1)), vi (sc xs (i + 2)), vi (sc xs (i + 3))]) (rest := []) dL_law_416 cv_L_48 tbk_0 M1 rfl rfl rfl rfl rfl ?_
  refine gw_aload_n (pc' := 420) dL_law_419 rfl rfl ?_
  refine gw_aload_n (pc' := 421) dL_law_420 rfl rfl ?_
  refine gw_iload_n (pc' := 422) dL_law_421 rfl rfl ?_
  refine gw_iconst (pc' := 423) dL_law_422 rfl ?_
  refine gw_iadd (pc' := 424) dL_law_423 rfl ?_
  refine gw_sld (j := i + 1) (pc' := 425) (by omega) (by omega) h4 dL_law_424 rfl ?_
  refine gw_aload_n (pc' := 426) dL_law_425 rfl rfl ?_
  refine gw_iload_n (pc' := 427) dL_law_426 rfl rfl ?_
  refine gw_iconst (pc' := 428) dL_law_427 rfl ?_
  refine gw_iadd (pc' := 429) dL_law_428 rfl ?_
  refine gw_sld (j := i + 2) (pc' := 430) (by omega) (by omega) h4 dL_law_429 rfl ?_
  refine gw_aload_n (pc' := 431) dL_law_430 rfl rfl ?_
  refine gw_iload_n (pc' := 432) dL_law_431 rfl rfl ?_
  refine gw_iconst (pc' := 433) dL_law_432 rfl ?_
  refine gw_iadd (pc' := 434) dL_law_433 rfl ?_
  refine gw_sld (j := i + 3) (pc' := 435) (by omega) (by omega) h4 dL_law_434 rfl ?_
  refine gw_call (pc' := 438) (As := [vi (sc xs (i + 1)), vi (sc xs (i + 2)), vi (sc xs (i + 3))]) (rest := [vi _]) dL_law_435 cv_L_52 tbk_51 M2 rfl rfl rfl rfl rfl ?_
  refine gw_eq (tgt := 1564) dL_law_438 (by decide) ?_
  exact la_next (K σ2 _ a3 a4 a5)
set_option maxRecDepth 20000 in
theorem ca_alter {G : Gh} {l : Launch} {b L i : Nat} {xs : Nat → Int32} {σ : St} {A : Ab} (h4 : L ≤ 384) (hi : i + 6 ≤ L) (ok : OKA A) (vc : Vc σ A) (vm : Vm σ A) (K : ∀ τ B, OKA B → Vc τ B → Vm τ B → LG G l b L xs 18 [some (.ref b), some (.ref (ad G 0)), some (.ref (ad G 51)), some (vi ((i + 6 : Nat) : Int))] [] τ) : LG G l b L xs 443 [some (.ref b), some (.ref (ad G 0)), some (.ref (ad G 51)), some (vi (i : Int))] [] σ := by
  obtain ⟨σ1, σ2, a1, a2, a3, a4, a5⟩ := Op.go (u_alter (sc_ir xs (i + 1)) (sc_ir xs (i + 2)) (sc_ir xs (i + 3))).op ok vc vm
  have M1 := m_X4_alter (G := G) (l := l) (sc xs (i + 1)) (sc xs (i + 2)) (sc xs (i + 3)) σ
  have M2 := m_X5_alter (G := G) (l := l) (sc xs (i + 1)) (sc xs (i + 2)) (sc xs (i + 3)) σ1
  rw [a1] at M1
  rw [a2] at M2
  refine gw_aload_n (pc' := 444) dL_law_443 rfl rfl ?_
  refine gw_aload_n (pc' := 445) dL_law_444 rfl rfl ?_
  refine gw_iload_n (pc' := 446) dL_law_445 rfl rfl ?_
  refine gw_iconst (pc' := 447) dL_law_446 rfl ?_
  refine gw_iadd (pc' := 448) dL_law_447 rfl ?_
  refine gw_sld (j := i + 1) (pc' := 449) (by omega) (by omega) h4 dL_law_448 rfl ?_
  refine gw_aload_n (pc' := 450) dL_law_449 rfl rfl ?_
  refine gw_iload_n (pc' := 451) dL_law_450 rfl rfl ?_
  refine gw_iconst (pc' := 452) dL_law_451 rfl ?_
  refine gw_iadd (pc' := 453) dL_law_452 rfl ?_
  refine gw_sld (j := i + 2) (pc' := 454) (by omega) (by omega) h4 dL_law_453 rfl ?_
  refine gw_aload_n (pc' := 455) dL_law_454 rfl rfl ?_
  refine gw_iload_n (pc' := 456) dL_law_455 rfl rfl ?_
  refine gw_iconst (pc' := 457) dL_law_456 rfl ?_
  refine gw_iadd (pc' := 458) dL_law_457 rfl ?_
  refine gw_sld (j := i + 3) (pc' := 459) (by omega) (by omega) h4 dL_law_458 rfl ?_
  refine gw_call (pc' := 462) (As := [vi (sc xs (i + 1)), vi (sc xs (i + 2)), vi (sc xs (i + 3))]) (rest := []) dL_law_459 cv_L_53 tbk_0 M1 rfl rfl rfl rfl rfl ?_
  refine gw_aload_n (pc' := 463) dL_law_462 rfl rfl ?_
  refine gw_aload_n (pc' := 464) dL_law_463 rfl rfl ?_
  refine gw_iload_n (pc' := 465) dL_law_464 rfl rfl ?_
  refine gw_iconst (pc' := 466) dL_law_465 rfl ?_
  refine gw_iadd (pc' := 467) dL_law_466 rfl ?_
  refine gw_sld (j := i + 1) (pc' := 468) (by omega) (by omega) h4 dL_law_467 rfl ?_
  refine gw_aload_n (pc' := 469) dL_law_468 rfl rfl ?_
  refine gw_iload_n (pc' := 470) dL_law_469 rfl rfl ?_
  refine gw_iconst (pc' := 471) dL_law_470 rfl ?_
  refine gw_iadd (pc' := 472) dL_law_471 rfl ?_
  refine gw_sld (j := i + 2) (pc' := 473) (by omega) (by omega) h4 dL_law_472 rfl ?_
  refine gw_aload_n (pc' := 474) dL_law_473 rfl rfl ?_
  refine gw_iload_n (pc' := 475) dL_law_474 rfl rfl ?_
  refine gw_iconst (pc' := 476) dL_law_475 rfl ?_
  refine gw_iadd (pc' := 477) dL_law_476 rfl ?_
  refine gw_sld (j := i + 3) (pc' := 478) (by omega) (by omega) h4 dL_law_477 rfl ?_
  refine gw_call (pc' := 481) (As := [vi (sc xs (i + 1)), vi (sc xs (i + 2)), vi (sc xs (i + 3))]) (rest := [vi _]) dL_law_478 cv_L_56 tbk_51 M2 rfl rfl rfl rfl rfl ?_
  refine gw_eq (tgt := 1564) dL_law_481 (by decide) ?_
  exact la_next (K σ2 _ a3 a4 a5)
set_option maxRecDepth 20000 in
theorem ca_rely {G : Gh} {l : Launch} {b L i : Nat} {xs : Nat → Int32} {σ : St} {A : Ab} (h4 : L ≤ 384) (hi : i + 6 ≤ L) (ok : OKA A) (vc : Vc σ A) (vm : Vm σ A) (K : ∀ τ B, OKA B → Vc τ B → Vm τ B → LG G l b L xs 18 [some (.ref b), some (.ref (ad G 0)), some (.ref (ad G 51)), some (vi ((i + 6 : Nat) : Int))] [] τ) : LG G l b L xs 486 [some (.ref b), some (.ref (ad G 0)), some (.ref (ad G 51)), some (vi (i : Int))] [] σ := by
  obtain ⟨σ1, σ2, a1, a2, a3, a4, a5⟩ := Op.go (u_rely (sc_ir xs (i + 1)) (sc_ir xs (i + 2))).op ok vc vm
  have M1 := m_X4_rely (G := G) (l := l) (sc xs (i + 1)) (sc xs (i + 2)) σ
  have M2 := m_X5_rely (G := G) (l := l) (sc xs (i + 1)) (sc xs (i + 2)) σ1
  rw [a1] at M1
  rw [a2] at M2
  refine gw_aload_n (pc' := 487) dL_law_486 rfl rfl ?_
  refine gw_aload_n (pc' := 488) dL_law_487 rfl rfl ?_
  refine gw_iload_n (pc' := 489) dL_law_488 rfl rfl ?_
  refine gw_iconst (pc' := 490) dL_law_489 rfl ?_
  refine gw_iadd (pc' := 491) dL_law_490 rfl ?_
  refine gw_sld (j := i + 1) (pc' := 492) (by omega) (by omega) h4 dL_law_491 rfl ?_
  refine gw_aload_n (pc' := 493) dL_law_492 rfl rfl ?_
  refine gw_iload_n (pc' := 494) dL_law_493 rfl rfl ?_
  refine gw_iconst (pc' := 495) dL_law_494 rfl ?_
  refine gw_iadd (pc' := 496) dL_law_495 rfl ?_
  refine gw_sld (j := i + 2) (pc' := 497) (by omega) (by omega) h4 dL_law_496 rfl ?_
  refine gw_call (pc' := 500) (As := [vi (sc xs (i + 1)), vi (sc xs (i + 2))]) (rest := []) dL_law_497 cv_L_57 tbk_0 M1 rfl rfl rfl rfl rfl ?_
  refine gw_aload_n (pc' := 501) dL_law_500 rfl rfl ?_
  refine gw_aload_n (pc' := 502) dL_law_501 rfl rfl ?_
  refine gw_iload_n (pc' := 503) dL_law_502 rfl rfl ?_
  refine gw_iconst (pc' := 504) dL_law_503 rfl ?_
  refine gw_iadd (pc' := 505) dL_law_504 rfl ?_
  refine gw_sld (j := i + 1) (pc' := 506) (by omega) (by omega) h4 dL_law_505 rfl ?_
  refine gw_aload_n (pc' := 507) dL_law_506 rfl rfl ?_
  refine gw_iload_n (pc' := 508) dL_law_507 rfl rfl ?_
  refine gw_iconst (pc' := 509) dL_law_508 rfl ?_
  refine gw_iadd (pc' := 510) dL_law_509 rfl ?_
  refine gw_sld (j := i + 2) (pc' := 511) (by omega) (by omega) h4 dL_law_510 rfl ?_
  refine gw_call (pc' := 514) (As := [vi (sc xs (i + 1)), vi (sc xs (i + 2))]) (rest := [vi _]) dL_law_511 cv_L_60 tbk_51 M2 rfl rfl rfl rfl rfl ?_
  refine gw_eq (tgt := 1564) dL_law_514 (by decide) ?_
  exact la_next (K σ2 _ a3 a4 a5)
set_option maxRecDepth 20000 in
theorem ca_cast {G : Gh} {l : Launch} {b L i : Nat} {xs : Nat → Int32} {σ : St} {A : Ab} (h4 : L ≤ 384) (hi : i + 6 ≤ L) (ok : OKA A) (vc : Vc σ A) (vm : Vm σ A) (K : ∀ τ B, OKA B → Vc τ B → Vm τ B → LG G l b L xs 18 [some (.ref b), some (.ref (ad G 0)), some (.ref (ad G 51)), some (vi ((i + 6 : Nat) : Int))] [] τ) : LG G l b L xs 519 [some (.ref b), some (.ref (ad G 0)), some (.ref (ad G 51)), some (vi (i : Int))] [] σ := by
  obtain ⟨σ1, σ2, a1, a2, a3, a4, a5⟩ := Op.go (u_cast (sc_ir xs (i + 1))).op ok vc vm
  have M1 := m_X4_cast (G := G) (l := l) (sc xs (i + 1)) σ
  have M2 := m_X5_cast (G := G) (l := l) (sc xs (i + 1)) σ1
  rw [a1] at M1
  rw [a2] at M2
  refine gw_aload_n (pc' := 520) dL_law_519 rfl rfl ?_
  refine gw_aload_n (pc' := 521) dL_law_520 rfl rfl ?_
  refine gw_iload_n (pc' := 522) dL_law_521 rfl rfl ?_
  refine gw_iconst (pc' := 523) dL_law_522 rfl ?_
  refine gw_iadd (pc' := 524) dL_law_523 rfl ?_
  refine gw_sld (j := i + 1) (pc' := 525) (by omega) (by omega) h4 dL_law_524 rfl ?_
  refine gw_call (pc' := 528) (As := [vi (sc xs (i + 1))]) (rest := []) dL_law_525 cv_L_61 tbk_0 M1 rfl rfl rfl rfl rfl ?_
  refine gw_aload_n (pc' := 529) dL_law_528 rfl rfl ?_
  refine gw_aload_n (pc' := 530) dL_law_529 rfl rfl ?_
  refine gw_iload_n (pc' := 531) dL_law_530 rfl rfl ?_
  refine gw_iconst (pc' := 532) dL_law_531 rfl ?_
  refine gw_iadd (pc' := 533) dL_law_532 rfl ?_
  refine gw_sld (j := i + 1) (pc' := 534) (by omega) (by omega) h4 dL_law_533 rfl ?_
  refine gw_call (pc' := 537) (As := [vi (sc xs (i + 1))]) (rest := [vi _]) dL_law_534 cv_L_64 tbk_51 M2 rfl rfl rfl rfl rfl ?_
  refine gw_eq (tgt := 1564) dL_law_537 (by decide) ?_
  exact la_next (K σ2 _ a3 a4 a5)
set_option maxRecDepth 20000 in
theorem ca_send {G : Gh} {l : Launch} {b L i : Nat} {xs : Nat → Int32} {σ : St} {A : Ab} (h4 : L ≤ 384) (hi : i + 6 ≤ L) (ok : OKA A) (vc : Vc σ A) (vm : Vm σ A) (K : ∀ τ B, OKA B → Vc τ B → Vm τ B → LG G l b L xs 18 [some (.ref b), some (.ref (ad G 0)), some (.ref (ad G 51)), some (vi ((i + 6 : Nat) : Int))] [] τ) : LG G l b L xs 542 [some (.ref b), some (.ref (ad G 0)), some (.ref (ad G 51)), some (vi (i : Int))] [] σ := by
  obtain ⟨σ1, σ2, a1, a2, a3, a4, a5⟩ := Op.go (u_send (sc_ir xs (i + 1)) (sc_ir xs (i + 2)) (sc_ir xs (i + 3)) (sc_ir xs (i + 4))).op ok vc vm
  have M1 := m_X4_send (G := G) (l := l) (sc xs (i + 1)) (sc xs (i + 2)) (sc xs (i + 3)) (sc xs (i + 4)) σ
  have M2 := m_X5_send (G := G) (l := l) (sc xs (i + 1)) (sc xs (i + 2)) (sc xs (i + 3)) (sc xs (i + 4)) σ1
  rw [a1] at M1
  rw [a2] at M2
  refine gw_aload_n (pc' := 543) dL_law_542 rfl rfl ?_
  refine gw_aload_n (pc' := 544) dL_law_543 rfl rfl ?_
  refine gw_iload_n (pc' := 545) dL_law_544 rfl rfl ?_
  refine gw_iconst (pc' := 546) dL_law_545 rfl ?_
  refine gw_iadd (pc' := 547) dL_law_546 rfl ?_
  refine gw_sld (j := i + 1) (pc' := 548) (by omega) (by omega) h4 dL_law_547 rfl ?_
  refine gw_aload_n (pc' := 549) dL_law_548 rfl rfl ?_
  refine gw_iload_n (pc' := 550) dL_law_549 rfl rfl ?_
  refine gw_iconst (pc' := 551) dL_law_550 rfl ?_
  refine gw_iadd (pc' := 552) dL_law_551 rfl ?_
  refine gw_sld (j := i + 2) (pc' := 553) (by omega) (by omega) h4 dL_law_552 rfl ?_
  refine gw_aload_n (pc' := 554) dL_law_553 rfl rfl ?_
  refine gw_iload_n (pc' := 555) dL_law_554 rfl rfl ?_
  refine gw_iconst (pc' := 556) dL_law_555 rfl ?_
  refine gw_iadd (pc' := 557) dL_law_556 rfl ?_
  refine gw_sld (j := i + 3) (pc' := 558) (by omega) (by omega) h4 dL_law_557 rfl ?_
  refine gw_aload_n (pc' := 559) dL_law_558 rfl rfl ?_
  refine gw_iload_n (pc' := 560) dL_law_559 rfl rfl ?_
  refine gw_iconst (pc' := 561) dL_law_560 rfl ?_
  refine gw_iadd (pc' := 562) dL_law_561 rfl ?_
  refine gw_sld (j := i + 4) (pc' := 563) (by omega) (by omega) h4 dL_law_562 rfl ?_
  refine gw_call (pc' := 566) (As := [vi (sc xs (i + 1)), vi (sc xs (i + 2)), vi (sc xs (i + 3)), vi (sc xs (i + 4))]) (rest := []) dL_law_563 cv_L_65 tbk_0 M1 rfl rfl rfl rfl rfl ?_
  refine gw_aload_n (pc' := 567) dL_law_566 rfl rfl ?_
  refine gw_aload_n (pc' := 568) dL_law_567 rfl rfl ?_
  refine gw_iload_n (pc' := 569) dL_law_568 rfl rfl ?_
  refine gw_iconst (pc' := 570) dL_law_569 rfl ?_
  refine gw_iadd (pc' := 571) dL_law_570 rfl ?_
  refine gw_sld (j := i + 1) (pc' := 572) (by omega) (by omega) h4 dL_law_571 rfl ?_
  refine gw_aload_n (pc' := 573) dL_law_572 rfl rfl ?_
  refine gw_iload_n (pc' := 574) dL_law_573 rfl rfl ?_
  refine gw_iconst (pc' := 575) dL_law_574 rfl ?_
  refine gw_iadd (pc' := 576) dL_law_575 rfl ?_
  refine gw_sld (j := i + 2) (pc' := 577) (by omega) (by omega) h4 dL_law_576 rfl ?_
  refine gw_aload_n (pc' := 578) dL_law_577 rfl rfl ?_
  refine gw_iload_n (pc' := 579) dL_law_578 rfl rfl ?_
  refine gw_iconst (pc' := 580) dL_law_579 rfl ?_
  refine gw_iadd (pc' := 581) dL_law_580 rfl ?_
  refine gw_sld (j := i + 3) (pc' := 582) (by omega) (by omega) h4 dL_law_581 rfl ?_
  refine gw_aload_n (pc' := 583) dL_law_582 rfl rfl ?_
  refine gw_iload_n (pc' := 584) dL_law_583 rfl rfl ?_
  refine gw_iconst (pc' := 585) dL_law_584 rfl ?_
  refine gw_iadd (pc' := 586) dL_law_585 rfl ?_
  refine gw_sld (j := i + 4) (pc' := 587) (by omega) (by omega) h4 dL_law_586 rfl ?_
  refine gw_call (pc' := 590) (As := [vi (sc xs (i + 1)), vi (sc xs (i + 2)), vi (sc xs (i + 3)), vi (sc xs (i + 4))]) (rest := [vi _]) dL_law_587 cv_L_69 tbk_51 M2 rfl rfl rfl rfl rfl ?_
  refine gw_eq (tgt := 1564) dL_law_590 (by decide) ?_
  exact la_next (K σ2 _ a3 a4 a5)
set_option maxRecDepth 20000 in
theorem ca_burn {G : Gh} {l : Launch} {b L i : Nat} {xs : Nat → Int32} {σ : St} {A : Ab} (h4 : L ≤ 384) (hi : i + 6 ≤ L) (ok : OKA A) (vc : Vc σ A) (vm : Vm σ A) (K : ∀ τ B, OKA B → Vc τ B → Vm τ B → LG G l b L xs 18 [some (.ref b), some (.ref (ad G 0)), some (.ref (ad G 51)), some (vi ((i + 6 : Nat) : Int))] [] τ) : LG G l b L xs 595 [some (.ref b), some (.ref (ad G 0)), some (.ref (ad G 51)), some (vi (i : Int))] [] σ := by
  obtain ⟨σ1, σ2, a1, a2, a3, a4, a5⟩ := Op.go (u_burn (sc_ir xs (i + 1))).op ok vc vm
  have M1 := m_X4_burn (G := G) (l := l) (sc xs (i + 1)) σ
  have M2 := m_X5_burn (G := G) (l := l) (sc xs (i + 1)) σ1
  rw [a1] at M1
  rw [a2] at M2
  refine gw_aload_n (pc' := 596) dL_law_595 rfl rfl ?_
  refine gw_aload_n (pc' := 597) dL_law_596 rfl rfl ?_
  refine gw_iload_n (pc' := 598) dL_law_597 rfl rfl ?_
  refine gw_iconst (pc' := 599) dL_law_598 rfl ?_
  refine gw_iadd (pc' := 600) dL_law_599 rfl ?_
  refine gw_sld (j := i + 1) (pc' := 601) (by omega) (by omega) h4 dL_law_600 rfl ?_
  refine gw_call (pc' := 604) (As := [vi (sc xs (i + 1))]) (rest := []) dL_law_601 cv_L_70 tbk_0 M1 rfl rfl rfl rfl rfl ?_
  refine gw_aload_n (pc' := 605) dL_law_604 rfl rfl ?_
  refine gw_aload_n (pc' := 606) dL_law_605 rfl rfl ?_
  refine gw_iload_n (pc' := 607) dL_law_606 rfl rfl ?_
  refine gw_iconst (pc' := 608) dL_law_607 rfl ?_
  refine gw_iadd (pc' := 609) dL_law_608 rfl ?_
  refine gw_sld (j := i + 1) (pc' := 610) (by omega) (by omega) h4 dL_law_609 rfl ?_
  refine gw_call (pc' := 613) (As := [vi (sc xs (i + 1))]) (rest := [vi _]) dL_law_610 cv_L_73 tbk_51 M2 rfl rfl rfl rfl rfl ?_
  refine gw_eq (tgt := 1564) dL_law_613 (by decide) ?_
  exact la_next (K σ2 _ a3 a4 a5)
set_option maxRecDepth 20000 in
theorem ca_days {G : Gh} {l : Launch} {b L i : Nat} {xs : Nat → Int32} {σ : St} {A : Ab} (h4 : L ≤ 384) (hi : i + 6 ≤ L) (ok : OKA A) (vc : Vc σ A) (vm : Vm σ A) (K : ∀ τ B, OKA B → Vc τ B → Vm τ B → LG G l b L xs 18 [some (.ref b), some (.ref (ad G 0)), some (.ref (ad G 51)), some (vi ((i + 6 : Nat) : Int))] [] τ) : LG G l b L xs 618 [some (.ref b), some (.ref (ad G 0)), some (.ref (ad G 51)), some (vi (i : Int))] [] σ := by
  obtain ⟨σ1, σ2, a1, a2, a3, a4, a5⟩ := Op.go (u_days (sc_ir xs (i + 1))).op ok vc vm
  have M1 := m_X4_days (G := G) (l := l) (sc xs (i + 1)) σ
  have M2 := m_X5_days (G := G) (l := l) (sc xs (i + 1)) σ1
  rw [a1] at M1
  rw [a2] at M2
  refine gw_aload_n (pc' := 619) dL_law_618 rfl rfl ?_
  refine gw_aload_n (pc' := 620) dL_law_619 rfl rfl ?_
  refine gw_iload_n (pc' := 621) dL_law_620 rfl rfl ?_
  refine gw_iconst (pc' := 622) dL_law_621 rfl ?_
  refine gw_iadd (pc' := 623) dL_law_622 rfl ?_
  refine gw_sld (j := i + 1) (pc' := 624) (by omega) (by omega) h4 dL_law_623 rfl ?_
  refine gw_call (pc' := 627) (As := [vi (sc xs (i + 1))]) (rest := []) dL_law_624 cv_L_74 tbk_0 M1 rfl rfl rfl rfl rfl ?_
  refine gw_aload_n (pc' := 628) dL_law_627 rfl rfl ?_
  refine gw_aload_n (pc' := 629) dL_law_628 rfl rfl ?_
  refine gw_iload_n (pc' := 630) dL_law_629 rfl rfl ?_
  refine gw_iconst (pc' := 631) dL_law_630 rfl ?_
  refine gw_iadd (pc' := 632) dL_law_631 rfl ?_
  refine gw_sld (j := i + 1) (pc' := 633) (by omega) (by omega) h4 dL_law_632 rfl ?_
  refine gw_call (pc' := 636) (As := [vi (sc xs (i + 1))]) (rest := [vi _]) dL_law_633 cv_L_77 tbk_51 M2 rfl rfl rfl rfl rfl ?_
  refine gw_eq (tgt := 1564) dL_law_636 (by decide) ?_
  exact la_next (K σ2 _ a3 a4 a5)
