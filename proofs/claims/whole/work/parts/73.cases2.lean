set_option maxRecDepth 20000 in
theorem ca_forget {G : Gh} {l : Launch} {b L i : Nat} {xs : Nat → Int32} {σ : St} {A : Ab} (h4 : L ≤ 384) (hi : i + 6 ≤ L) (ok : OKA A) (vc : Vc σ A) (vm : Vm σ A) (K : ∀ τ B, OKA B → Vc τ B → Vm τ B → LG G l b L xs 18 [some (.ref b), some (.ref (ad G 0)), some (.ref (ad G 51)), some (vi ((i + 6 : Nat) : Int))] [] τ) : LG G l b L xs 1198 [some (.ref b), some (.ref (ad G 0)), some (.ref (ad G 51)), some (vi (i : Int))] [] σ := by
  obtain ⟨σ1, σ2, a1, a2, a3, a4, a5⟩ := Op.go (o_forget (sc_ir xs (i + 1))) ok vc vm
  have M1 := m_X4_forget (G := G) (l := l) (sc xs (i + 1)) σ
  have M2 := m_X5_forget (G := G) (l := l) (sc xs (i + 1)) σ1
  rw [a1] at M1
  rw [a2] at M2
  refine gw_aload_n (pc' := 1199) dL_law_1198 rfl rfl ?_
  refine gw_aload_n (pc' := 1200) dL_law_1199 rfl rfl ?_
  refine gw_iload_n (pc' := 1201) dL_law_1200 rfl rfl ?_
  refine gw_iconst (pc' := 1202) dL_law_1201 rfl ?_
  refine gw_iadd (pc' := 1203) dL_law_1202 rfl ?_
  refine gw_sld (j := i + 1) (pc' := 1204) (by omega) (by omega) h4 dL_law_1203 rfl ?_
  refine gw_call (pc' := 1207) (As := [vi (sc xs (i + 1))]) (rest := []) dL_law_1204 cv_L_140 tbk_0 M1 rfl rfl rfl rfl rfl ?_
  refine gw_aload_n (pc' := 1208) dL_law_1207 rfl rfl ?_
  refine gw_aload_n (pc' := 1209) dL_law_1208 rfl rfl ?_
  refine gw_iload_n (pc' := 1210) dL_law_1209 rfl rfl ?_
  refine gw_iconst (pc' := 1211) dL_law_1210 rfl ?_
  refine gw_iadd (pc' := 1212) dL_law_1211 rfl ?_
  refine gw_sld (j := i + 1) (pc' := 1213) (by omega) (by omega) h4 dL_law_1212 rfl ?_
  refine gw_call (pc' := 1216) (As := [vi (sc xs (i + 1))]) (rest := [vi _]) dL_law_1213 cv_L_143 tbk_51 M2 rfl rfl rfl rfl rfl ?_
  refine gw_eq (tgt := 1564) dL_law_1216 (by decide) ?_
  exact la_next (K σ2 _ a3 a4 a5)
set_option maxRecDepth 20000 in
theorem ca_kinds {G : Gh} {l : Launch} {b L i : Nat} {xs : Nat → Int32} {σ : St} {A : Ab} (h4 : L ≤ 384) (hi : i + 6 ≤ L) (ok : OKA A) (vc : Vc σ A) (vm : Vm σ A) (K : ∀ τ B, OKA B → Vc τ B → Vm τ B → LG G l b L xs 18 [some (.ref b), some (.ref (ad G 0)), some (.ref (ad G 51)), some (vi ((i + 6 : Nat) : Int))] [] τ) : LG G l b L xs 1221 [some (.ref b), some (.ref (ad G 0)), some (.ref (ad G 51)), some (vi (i : Int))] [] σ := by
  obtain ⟨σ1, σ2, a1, a2, a3, a4, a5⟩ := Op.go (q_kinds (sc_ir xs (i + 1))).op ok vc vm
  have M1 := m_X4_kinds (G := G) (l := l) (sc xs (i + 1)) σ
  have M2 := m_X5_kinds (G := G) (l := l) (sc xs (i + 1)) σ1
  rw [a1] at M1
  rw [a2] at M2
  refine gw_aload_n (pc' := 1222) dL_law_1221 rfl rfl ?_
  refine gw_aload_n (pc' := 1223) dL_law_1222 rfl rfl ?_
  refine gw_iload_n (pc' := 1224) dL_law_1223 rfl rfl ?_
  refine gw_iconst (pc' := 1225) dL_law_1224 rfl ?_
  refine gw_iadd (pc' := 1226) dL_law_1225 rfl ?_
  refine gw_sld (j := i + 1) (pc' := 1227) (by omega) (by omega) h4 dL_law_1226 rfl ?_
  refine gw_call (pc' := 1230) (As := [vi (sc xs (i + 1))]) (rest := []) dL_law_1227 cv_L_144 tbk_0 M1 rfl rfl rfl rfl rfl ?_
  refine gw_aload_n (pc' := 1231) dL_law_1230 rfl rfl ?_
  refine gw_aload_n (pc' := 1232) dL_law_1231 rfl rfl ?_
  refine gw_iload_n (pc' := 1233) dL_law_1232 rfl rfl ?_
  refine gw_iconst (pc' := 1234) dL_law_1233 rfl ?_
  refine gw_iadd (pc' := 1235) dL_law_1234 rfl ?_
  refine gw_sld (j := i + 1) (pc' := 1236) (by omega) (by omega) h4 dL_law_1235 rfl ?_
  refine gw_call (pc' := 1239) (As := [vi (sc xs (i + 1))]) (rest := [vi _]) dL_law_1236 cv_L_147 tbk_51 M2 rfl rfl rfl rfl rfl ?_
  refine gw_eq (tgt := 1564) dL_law_1239 (by decide) ?_
  exact la_next (K σ2 _ a3 a4 a5)
set_option maxRecDepth 20000 in
theorem ca_ups {G : Gh} {l : Launch} {b L i : Nat} {xs : Nat → Int32} {σ : St} {A : Ab} (h4 : L ≤ 384) (hi : i + 6 ≤ L) (ok : OKA A) (vc : Vc σ A) (vm : Vm σ A) (K : ∀ τ B, OKA B → Vc τ B → Vm τ B → LG G l b L xs 18 [some (.ref b), some (.ref (ad G 0)), some (.ref (ad G 51)), some (vi ((i + 6 : Nat) : Int))] [] τ) : LG G l b L xs 1244 [some (.ref b), some (.ref (ad G 0)), some (.ref (ad G 51)), some (vi (i : Int))] [] σ := by
  obtain ⟨σ1, σ2, a1, a2, a3, a4, a5⟩ := Op.go (q_ups (sc_ir xs (i + 1))).op ok vc vm
  have M1 := m_X4_ups (G := G) (l := l) (sc xs (i + 1)) σ
  have M2 := m_X5_ups (G := G) (l := l) (sc xs (i + 1)) σ1
  rw [a1] at M1
  rw [a2] at M2
  refine gw_aload_n (pc' := 1245) dL_law_1244 rfl rfl ?_
  refine gw_aload_n (pc' := 1246) dL_law_1245 rfl rfl ?_
  refine gw_iload_n (pc' := 1247) dL_law_1246 rfl rfl ?_
  refine gw_iconst (pc' := 1248) dL_law_1247 rfl ?_
  refine gw_iadd (pc' := 1249) dL_law_1248 rfl ?_
  refine gw_sld (j := i + 1) (pc' := 1250) (by omega) (by omega) h4 dL_law_1249 rfl ?_
  refine gw_call (pc' := 1253) (As := [vi (sc xs (i + 1))]) (rest := []) dL_law_1250 cv_L_148 tbk_0 M1 rfl rfl rfl rfl rfl ?_
  refine gw_aload_n (pc' := 1254) dL_law_1253 rfl rfl ?_
  refine gw_aload_n (pc' := 1255) dL_law_1254 rfl rfl ?_
  refine gw_iload_n (pc' := 1256) dL_law_1255 rfl rfl ?_
  refine gw_iconst (pc' := 1257) dL_law_1256 rfl ?_
  refine gw_iadd (pc' := 1258) dL_law_1257 rfl ?_
  refine gw_sld (j := i + 1) (pc' := 1259) (by omega) (by omega) h4 dL_law_1258 rfl ?_
  refine gw_call (pc' := 1262) (As := [vi (sc xs (i + 1))]) (rest := [vi _]) dL_law_1259 cv_L_151 tbk_51 M2 rfl rfl rfl rfl rfl ?_
  refine gw_eq (tgt := 1564) dL_law_1262 (by decide) ?_
  exact la_next (K σ2 _ a3 a4 a5)
set_option maxRecDepth 20000 in
theorem ca_ask {G : Gh} {l : Launch} {b L i : Nat} {xs : Nat → Int32} {σ : St} {A : Ab} (h4 : L ≤ 384) (hi : i + 6 ≤ L) (ok : OKA A) (vc : Vc σ A) (vm : Vm σ A) (K : ∀ τ B, OKA B → Vc τ B → Vm τ B → LG G l b L xs 18 [some (.ref b), some (.ref (ad G 0)), some (.ref (ad G 51)), some (vi ((i + 6 : Nat) : Int))] [] τ) : LG G l b L xs 1267 [some (.ref b), some (.ref (ad G 0)), some (.ref (ad G 51)), some (vi (i : Int))] [] σ := by
  obtain ⟨σ1, σ2, a1, a2, a3, a4, a5⟩ := Op.go (q_ask (sc_ir xs (i + 1)) (sc_ir xs (i + 2))).op ok vc vm
  have M1 := m_X4_ask (G := G) (l := l) (sc xs (i + 1)) (sc xs (i + 2)) σ
  have M2 := m_X5_ask (G := G) (l := l) (sc xs (i + 1)) (sc xs (i + 2)) σ1
  rw [a1] at M1
  rw [a2] at M2
  refine gw_aload_n (pc' := 1268) dL_law_1267 rfl rfl ?_
  refine gw_aload_n (pc' := 1269) dL_law_1268 rfl rfl ?_
  refine gw_iload_n (pc' := 1270) dL_law_1269 rfl rfl ?_
  refine gw_iconst (pc' := 1271) dL_law_1270 rfl ?_
  refine gw_iadd (pc' := 1272) dL_law_1271 rfl ?_
  refine gw_sld (j := i + 1) (pc' := 1273) (by omega) (by omega) h4 dL_law_1272 rfl ?_
  refine gw_aload_n (pc' := 1274) dL_law_1273 rfl rfl ?_
  refine gw_iload_n (pc' := 1275) dL_law_1274 rfl rfl ?_
  refine gw_iconst (pc' := 1276) dL_law_1275 rfl ?_
  refine gw_iadd (pc' := 1277) dL_law_1276 rfl ?_
  refine gw_sld (j := i + 2) (pc' := 1278) (by omega) (by omega) h4 dL_law_1277 rfl ?_
  refine gw_call (pc' := 1281) (As := [vi (sc xs (i + 1)), vi (sc xs (i + 2))]) (rest := []) dL_law_1278 cv_L_152 tbk_0 M1 rfl rfl rfl rfl rfl ?_
  refine gw_aload_n (pc' := 1282) dL_law_1281 rfl rfl ?_
  refine gw_aload_n (pc' := 1283) dL_law_1282 rfl rfl ?_
  refine gw_iload_n (pc' := 1284) dL_law_1283 rfl rfl ?_
  refine gw_iconst (pc' := 1285) dL_law_1284 rfl ?_
  refine gw_iadd (pc' := 1286) dL_law_1285 rfl ?_
  refine gw_sld (j := i + 1) (pc' := 1287) (by omega) (by omega) h4 dL_law_1286 rfl ?_
  refine gw_aload_n (pc' := 1288) dL_law_1287 rfl rfl ?_
  refine gw_iload_n (pc' := 1289) dL_law_1288 rfl rfl ?_
  refine gw_iconst (pc' := 1290) dL_law_1289 rfl ?_
  refine gw_iadd (pc' := 1291) dL_law_1290 rfl ?_
  refine gw_sld (j := i + 2) (pc' := 1292) (by omega) (by omega) h4 dL_law_1291 rfl ?_
  refine gw_call (pc' := 1295) (As := [vi (sc xs (i + 1)), vi (sc xs (i + 2))]) (rest := [vi _]) dL_law_1292 cv_L_155 tbk_51 M2 rfl rfl rfl rfl rfl ?_
  refine gw_eq (tgt := 1564) dL_law_1295 (by decide) ?_
  exact la_next (K σ2 _ a3 a4 a5)
set_option maxRecDepth 20000 in
theorem ca_drift {G : Gh} {l : Launch} {b L i : Nat} {xs : Nat → Int32} {σ : St} {A : Ab} (h4 : L ≤ 384) (hi : i + 6 ≤ L) (ok : OKA A) (vc : Vc σ A) (vm : Vm σ A) (K : ∀ τ B, OKA B → Vc τ B → Vm τ B → LG G l b L xs 18 [some (.ref b), some (.ref (ad G 0)), some (.ref (ad G 51)), some (vi ((i + 6 : Nat) : Int))] [] τ) : LG G l b L xs 1300 [some (.ref b), some (.ref (ad G 0)), some (.ref (ad G 51)), some (vi (i : Int))] [] σ := by
  obtain ⟨σ1, σ2, a1, a2, a3, a4, a5⟩ := Op.go (q_drift (sc_ir xs (i + 1)) (sc_ir xs (i + 2)) (sc_ir xs (i + 3))).op ok vc vm
  have M1 := m_X4_drift (G := G) (l := l) (sc xs (i + 1)) (sc xs (i + 2)) (sc xs (i + 3)) σ
  have M2 := m_X5_drift (G := G) (l := l) (sc xs (i + 1)) (sc xs (i + 2)) (sc xs (i + 3)) σ1
  rw [a1] at M1
  rw [a2] at M2
  refine gw_aload_n (pc' := 1301) dL_law_1300 rfl rfl ?_
  refine gw_aload_n (pc' := 1302) dL_law_1301 rfl rfl ?_
  refine gw_iload_n (pc' := 1303) dL_law_1302 rfl rfl ?_
  refine gw_iconst (pc' := 1304) dL_law_1303 rfl ?_
  refine gw_iadd (pc' := 1305) dL_law_1304 rfl ?_
  refine gw_sld (j := i + 1) (pc' := 1306) (by omega) (by omega) h4 dL_law_1305 rfl ?_
  refine gw_aload_n (pc' := 1307) dL_law_1306 rfl rfl ?_
  refine gw_iload_n (pc' := 1308) dL_law_1307 rfl rfl ?_
  refine gw_iconst (pc' := 1309) dL_law_1308 rfl ?_
  refine gw_iadd (pc' := 1310) dL_law_1309 rfl ?_
  refine gw_sld (j := i + 2) (pc' := 1311) (by omega) (by omega) h4 dL_law_1310 rfl ?_
  refine gw_aload_n (pc' := 1312) dL_law_1311 rfl rfl ?_
  refine gw_iload_n (pc' := 1313) dL_law_1312 rfl rfl ?_
  refine gw_iconst (pc' := 1314) dL_law_1313 rfl ?_
  refine gw_iadd (pc' := 1315) dL_law_1314 rfl ?_
  refine gw_sld (j := i + 3) (pc' := 1316) (by omega) (by omega) h4 dL_law_1315 rfl ?_
  refine gw_call (pc' := 1319) (As := [vi (sc xs (i + 1)), vi (sc xs (i + 2)), vi (sc xs (i + 3))]) (rest := []) dL_law_1316 cv_L_156 tbk_0 M1 rfl rfl rfl rfl rfl ?_
  refine gw_aload_n (pc' := 1320) dL_law_1319 rfl rfl ?_
  refine gw_aload_n (pc' := 1321) dL_law_1320 rfl rfl ?_
  refine gw_iload_n (pc' := 1322) dL_law_1321 rfl rfl ?_
  refine gw_iconst (pc' := 1323) dL_law_1322 rfl ?_
  refine gw_iadd (pc' := 1324) dL_law_1323 rfl ?_
  refine gw_sld (j := i + 1) (pc' := 1325) (by omega) (by omega) h4 dL_law_1324 rfl ?_
  refine gw_aload_n (pc' := 1326) dL_law_1325 rfl rfl ?_
  refine gw_iload_n (pc' := 1327) dL_law_1326 rfl rfl ?_
  refine gw_iconst (pc' := 1328) dL_law_1327 rfl ?_
  refine gw_iadd (pc' := 1329) dL_law_1328 rfl ?_
  refine gw_sld (j := i + 2) (pc' := 1330) (by omega) (by omega) h4 dL_law_1329 rfl ?_
  refine gw_aload_n (pc' := 1331) dL_law_1330 rfl rfl ?_
  refine gw_iload_n (pc' := 1332) dL_law_1331 rfl rfl ?_
  refine gw_iconst (pc' := 1333) dL_law_1332 rfl ?_
  refine gw_iadd (pc' := 1334) dL_law_1333 rfl ?_
  refine gw_sld (j := i + 3) (pc' := 1335) (by omega) (by omega) h4 dL_law_1334 rfl ?_
  refine gw_call (pc' := 1338) (As := [vi (sc xs (i + 1)), vi (sc xs (i + 2)), vi (sc xs (i + 3))]) (rest := [vi _]) dL_law_1335 cv_L_159 tbk_51 M2 rfl rfl rfl rfl rfl ?_
  refine gw_eq (tgt := 1564) dL_law_1338 (by decide) ?_
  exact la_next (K σ2 _ a3 a4 a5)
set_option maxRecDepth 20000 in
theorem ca_keep {G : Gh} {l : Launch} {b L i : Nat} {xs : Nat → Int32} {σ : St} {A : Ab} (h4 : L ≤ 384) (hi : i + 6 ≤ L) (ok : OKA A) (vc : Vc σ A) (vm : Vm σ A) (K : ∀ τ B, OKA B → Vc τ B → Vm τ B → LG G l b L xs 18 [some (.ref b), some (.ref (ad G 0)), some (.ref (ad G 51)), some (vi ((i + 6 : Nat) : Int))] [] τ) : LG G l b L xs 1343 [some (.ref b), some (.ref (ad G 0)), some (.ref (ad G 51)), some (vi (i : Int))] [] σ := by
  obtain ⟨σ1, σ2, a1, a2, a3, a4, a5⟩ := Op.go (o_keep (sc_ir xs (i + 1))) ok vc vm
  have M1 := m_X4_keep (G := G) (l := l) (sc xs (i + 1)) σ
  have M2 := m_X5_keep (G := G) (l := l) (sc xs (i + 1)) σ1
  rw [a1] at M1
  rw [a2] at M2
  refine gw_aload_n (pc' := 1344) dL_law_1343 rfl rfl ?_
  refine gw_aload_n (pc' := 1345) dL_law_1344 rfl rfl ?_
  refine gw_iload_n (pc' := 1346) dL_law_1345 rfl rfl ?_
  refine gw_iconst (pc' := 1347) dL_law_1346 rfl ?_
  refine gw_iadd (pc' := 1348) dL_law_1347 rfl ?_
  refine gw_sld (j := i + 1) (pc' := 1349) (by omega) (by omega) h4 dL_law_1348 rfl ?_
  refine gw_call (pc' := 1352) (As := [vi (sc xs (i + 1))]) (rest := []) dL_law_1349 cv_L_160 tbk_0 M1 rfl rfl rfl rfl rfl ?_
  refine gw_aload_n (pc' := 1353) dL_law_1352 rfl rfl ?_
  refine gw_aload_n (pc' := 1354) dL_law_1353 rfl rfl ?_
  refine gw_iload_n (pc' := 1355) dL_law_1354 rfl rfl ?_
  refine gw_iconst (pc' := 1356) dL_law_1355 rfl ?_
  refine gw_iadd (pc' := 1357) dL_law_1356 rfl ?_
  refine gw_sld (j := i + 1) (pc' := 1358) (by omega) (by omega) h4 dL_law_1357 rfl ?_
  refine gw_call (pc' := 1361) (As := [vi (sc xs (i + 1))]) (rest := [vi _]) dL_law_1358 cv_L_163 tbk_51 M2 rfl rfl rfl rfl rfl ?_
  refine gw_eq (tgt := 1564) dL_law_1361 (by decide) ?_
  exact la_next (K σ2 _ a3 a4 a5)
set_option maxRecDepth 20000 in
theorem ca_back {G : Gh} {l : Launch} {b L i : Nat} {xs : Nat → Int32} {σ : St} {A : Ab} (h4 : L ≤ 384) (hi : i + 6 ≤ L) (ok : OKA A) (vc : Vc σ A) (vm : Vm σ A) (K : ∀ τ B, OKA B → Vc τ B → Vm τ B → LG G l b L xs 18 [some (.ref b), some (.ref (ad G 0)), some (.ref (ad G 51)), some (vi ((i + 6 : Nat) : Int))] [] τ) : LG G l b L xs 1366 [some (.ref b), some (.ref (ad G 0)), some (.ref (ad G 51)), some (vi (i : Int))] [] σ := by
  obtain ⟨σ1, σ2, a1, a2, a3, a4, a5⟩ := Op.go (o_back (sc_ir xs (i + 1))) ok vc vm
  have M1 := m_X4_back (G := G) (l := l) (sc xs (i + 1)) σ
  have M2 := m_X5_back (G := G) (l := l) (sc xs (i + 1)) σ1
  rw [a1] at M1
  rw [a2] at M2
  refine gw_aload_n (pc' := 1367) dL_law_1366 rfl rfl ?_
  refine gw_aload_n (pc' := 1368) dL_law_1367 rfl rfl ?_
  refine gw_iload_n (pc' := 1369) dL_law_1368 rfl rfl ?_
  refine gw_iconst (pc' := 1370) dL_law_1369 rfl ?_
  refine gw_iadd (pc' := 1371) dL_law_1370 rfl ?_
  refine gw_sld (j := i + 1) (pc' := 1372) (by omega) (by omega) h4 dL_law_1371 rfl ?_
  refine gw_call (pc' := 1375) (As := [vi (sc xs (i + 1))]) (rest := []) dL_law_1372 cv_L_164 tbk_0 M1 rfl rfl rfl rfl rfl ?_
  refine gw_aload_n (pc' := 1376) dL_law_1375 rfl rfl ?_
  refine gw_aload_n (pc' := 1377) dL_law_1376 rfl rfl ?_
  refine gw_iload_n (pc' := 1378) dL_law_1377 rfl rfl ?_
  refine gw_iconst (pc' := 1379) dL_law_1378 rfl ?_
  refine gw_iadd (pc' := 1380) dL_law_1379 rfl ?_
  refine gw_sld (j := i + 1) (pc' := 1381) (by omega) (by omega) h4 dL_law_1380 rfl ?_
  refine gw_call (pc' := 1384) (As := [vi (sc xs (i + 1))]) (rest := [vi _]) dL_law_1381 cv_L_167 tbk_51 M2 rfl rfl rfl rfl rfl ?_
  refine gw_eq (tgt := 1564) dL_law_1384 (by decide) ?_
  exact la_next (K σ2 _ a3 a4 a5)
set_option maxRecDepth 20000 in
theorem ca_sheet {G : Gh} {l : Launch} {b L i : Nat} {xs : Nat → Int32} {σ : St} {A : Ab} (h4 : L ≤ 384) (hi : i + 6 ≤ L) (ok : OKA A) (vc : Vc σ A) (vm : Vm σ A) (K : ∀ τ B, OKA B → Vc τ B → Vm τ B → LG G l b L xs 18 [some (.ref b), some (.ref (ad G 0)), some (.ref (ad G 51)), some (vi ((i + 6 : Nat) : Int))] [] τ) : LG G l b L xs 1389 [some (.ref b), some (.ref (ad G 0)), some (.ref (ad G 51)), some (vi (i : Int))] [] σ := by
  obtain ⟨σ1, σ2, a1, a2, a3, a4, a5⟩ := Op.go (o_sheet (sc_ir xs (i + 1)) (sc_ir xs (i + 2)) (sc_ir xs (i + 3))) ok vc vm
  have M1 := m_X4_sheet (G := G) (l := l) (sc xs (i + 1)) (sc xs (i + 2)) (sc xs (i + 3)) σ
  have M2 := m_X5_sheet (G := G) (l := l) (sc xs (i + 1)) (sc xs (i + 2)) (sc xs (i + 3)) σ1
  rw [a1] at M1
  rw [a2] at M2
  refine gw_aload_n (pc' := 1390) dL_law_1389 rfl rfl ?_
  refine gw_aload_n (pc' := 1391) dL_law_1390 rfl rfl ?_
  refine gw_iload_n (pc' := 1392) dL_law_1391 rfl rfl ?_
  refine gw_iconst (pc' := 1393) dL_law_1392 rfl ?_
  refine gw_iadd (pc' := 1394) dL_law_1393 rfl ?_
  refine gw_sld (j := i + 1) (pc' := 1395) (by omega) (by omega) h4 dL_law_1394 rfl ?_
  refine gw_aload_n (pc' := 1396) dL_law_1395 rfl rfl ?_
  refine gw_iload_n (pc' := 1397) dL_law_1396 rfl rfl ?_
  refine gw_iconst (pc' := 1398) dL_law_1397 rfl ?_
  refine gw_iadd (pc' := 1399) dL_law_1398 rfl ?_
  refine gw_sld (j := i + 2) (pc' := 1400) (by omega) (by omega) h4 dL_law_1399 rfl ?_
  refine gw_aload_n (pc' := 1401) dL_law_1400 rfl rfl ?_
  refine gw_iload_n (pc' := 1402) dL_law_1401 rfl rfl ?_
  refine gw_iconst (pc' := 1403) dL_law_1402 rfl ?_
  refine gw_iadd (pc' := 1404) dL_law_1403 rfl ?_
  refine gw_sld (j := i + 3) (pc' := 1405) (by omega) (by omega) h4 dL_law_1404 rfl ?_
  refine gw_call (pc' := 1408) (As := [vi (sc xs (i + 1)), vi (sc xs (i + 2)), vi (sc xs (i + 3))]) (rest := []) dL_law_1405 cv_L_168 tbk_0 M1 rfl rfl rfl rfl rfl ?_
  refine gw_aload_n (pc' := 1409) dL_law_1408 rfl rfl ?_
  refine gw_aload_n (pc' := 1410) dL_law_1409 rfl rfl ?_
  refine gw_iload_n (pc' := 1411) dL_law_1410 rfl rfl ?_
  refine gw_iconst (pc' := 1412) dL_law_1411 rfl ?_
  refine gw_iadd (pc' := 1413) dL_law_1412 rfl ?_
  refine gw_sld (j := i + 1) (pc' := 1414) (by omega) (by omega) h4 dL_law_1413 rfl ?_
  refine gw_aload_n (pc' := 1415) dL_law_1414 rfl rfl ?_
  refine gw_iload_n (pc' := 1416) dL_law_1415 rfl rfl ?_
  refine gw_iconst (pc' := 1417) dL_law_1416 rfl ?_
  refine gw_iadd (pc' := 1418) dL_law_1417 rfl ?_
  refine gw_sld (j := i + 2) (pc' := 1419) (by omega) (by omega) h4 dL_law_1418 rfl ?_
  refine gw_aload_n (pc' := 1420) dL_law_1419 rfl rfl ?_
  refine gw_iload_n (pc' := 1421) dL_law_1420 rfl rfl ?_
  refine gw_iconst (pc' := 1422) dL_law_1421 rfl ?_
  refine gw_iadd (pc' := 1423) dL_law_1422 rfl ?_
  refine gw_sld (j := i + 3) (pc' := 1424) (by omega) (by omega) h4 dL_law_1423 rfl ?_
  refine gw_call (pc' := 1427) (As := [vi (sc xs (i + 1)), vi (sc xs (i + 2)), vi (sc xs (i + 3))]) (rest := [vi _]) dL_law_1424 cv_L_171 tbk_51 M2 rfl rfl rfl rfl rfl ?_
  refine gw_eq (tgt := 1564) dL_law_1427 (by decide) ?_
  exact la_next (K σ2 _ a3 a4 a5)
set_option maxRecDepth 20000 in
theorem ca_lay {G : Gh} {l : Launch} {b L i : Nat} {xs : Nat → Int32} {σ : St} {A : Ab} (h4 : L ≤ 384) (hi : i + 6 ≤ L) (ok : OKA A) (vc : Vc σ A) (vm : Vm σ A) (K : ∀ τ B, OKA B → Vc τ B → Vm τ B → LG G l b L xs 18 [some (.ref b), some (.ref (ad G 0)), some (.ref (ad G 51)), some (vi ((i + 6 : Nat) : Int))] [] τ) : LG G l b L xs 1432 [some (.ref b), some (.ref (ad G 0)), some (.ref (ad G 51)), some (vi (i : Int))] [] σ := by
  obtain ⟨σ1, σ2, a1, a2, a3, a4, a5⟩ := Op.go (o_lay (sc_ir xs (i + 1)) (sc_ir xs (i + 2)) (sc_ir xs (i + 3))) ok vc vm
  have M1 := m_X4_lay (G := G) (l := l) (sc xs (i + 1)) (sc xs (i + 2)) (sc xs (i + 3)) σ
  have M2 := m_X5_lay (G := G) (l := l) (sc xs (i + 1)) (sc xs (i + 2)) (sc xs (i + 3)) σ1
  rw [a1] at M1
  rw [a2] at M2
  refine gw_aload_n (pc' := 1433) dL_law_1432 rfl rfl ?_
  refine gw_aload_n (pc' := 1434) dL_law_1433 rfl rfl ?_
  refine gw_iload_n (pc' := 1435) dL_law_1434 rfl rfl ?_
  refine gw_iconst (pc' := 1436) dL_law_1435 rfl ?_
  refine gw_iadd (pc' := 1437) dL_law_1436 rfl ?_
  refine gw_sld (j := i + 1) (pc' := 1438) (by omega) (by omega) h4 dL_law_1437 rfl ?_
  refine gw_aload_n (pc' := 1439) dL_law_1438 rfl rfl ?_
  refine gw_iload_n (pc' := 1440) dL_law_1439 rfl rfl ?_
  refine gw_iconst (pc' := 1441) dL_law_1440 rfl ?_
  refine gw_iadd (pc' := 1442) dL_law_1441 rfl ?_
  refine gw_sld (j := i + 2) (pc' := 1443) (by omega) (by omega) h4 dL_law_1442 rfl ?_
  refine gw_aload_n (pc' := 1444) dL_law_1443 rfl rfl ?_
  refine gw_iload_n (pc' := 1445) dL_law_1444 rfl rfl ?_
  refine gw_iconst (pc' := 1446) dL_law_1445 rfl ?_
  refine gw_iadd (pc' := 1447) dL_law_1446 rfl ?_
  refine gw_sld (j := i + 3) (pc' := 1448) (by omega) (by omega) h4 dL_law_1447 rfl ?_
  refine gw_call (pc' := 1451) (As := [vi (sc xs (i + 1)), vi (sc xs (i + 2)), vi (sc xs (i + 3))]) (rest := []) dL_law_1448 cv_L_172 tbk_0 M1 rfl rfl rfl rfl rfl ?_
  refine gw_aload_n (pc' := 1452) dL_law_1451 rfl rfl ?_
  refine gw_aload_n (pc' := 1453) dL_law_1452 rfl rfl ?_
  refine gw_iload_n (pc' := 1454) dL_law_1453 rfl rfl ?_
  refine gw_iconst (pc' := 1455) dL_law_1454 rfl ?_
  refine gw_iadd (pc' := 1456) dL_law_1455 rfl ?_
  refine gw_sld (j := i + 1) (pc' := 1457) (by omega) (by omega) h4 dL_law_1456 rfl ?_
  refine gw_aload_n (pc' := 1458) dL_law_1457 rfl rfl ?_
  refine gw_iload_n (pc' := 1459) dL_law_1458 rfl rfl ?_
  refine gw_iconst (pc' := 1460) dL_law_1459 rfl ?_
  refine gw_iadd (pc' := 1461) dL_law_1460 rfl ?_
  refine gw_sld (j := i + 2) (pc' := 1462) (by omega) (by omega) h4 dL_law_1461 rfl ?_
  refine gw_aload_n (pc' := 1463) dL_law_1462 rfl rfl ?_
  refine gw_iload_n (pc' := 1464) dL_law_1463 rfl rfl ?_
  refine gw_iconst (pc' := 1465) dL_law_1464 rfl ?_
  refine gw_iadd (pc' := 1466) dL_law_1465 rfl ?_
  refine gw_sld (j := i + 3) (pc' := 1467) (by omega) (by omega) h4 dL_law_1466 rfl ?_
  refine gw_call (pc' := 1470) (As := [vi (sc xs (i + 1)), vi (sc xs (i + 2)), vi (sc xs (i + 3))]) (rest := [vi _]) dL_law_1467 cv_L_175 tbk_51 M2 rfl rfl rfl rfl rfl ?_
  refine gw_eq (tgt := 1564) dL_law_1470 (by decide) ?_
  exact la_next (K σ2 _ a3 a4 a5)
set_option maxRecDepth 20000 in
theorem ca_read {G : Gh} {l : Launch} {b L i : Nat} {xs : Nat → Int32} {σ : St} {A : Ab} (h4 : L ≤ 384) (hi : i + 6 ≤ L) (ok : OKA A) (vc : Vc σ A) (vm : Vm σ A) (K : ∀ τ B, OKA B → Vc τ B → Vm τ B → LG G l b L xs 18 [some (.ref b), some (.ref (ad G 0)), some (.ref (ad G 51)), some (vi ((i + 6 : Nat) : Int))] [] τ) : LG G l b L xs 1475 [some (.ref b), some (.ref (ad G 0)), some (.ref (ad G 51)), some (vi (i : Int))] [] σ := by
  obtain ⟨σ1, σ2, a1, a2, a3, a4, a5⟩ := Op.go (o_read (sc_ir xs (i + 1)) (sc_ir xs (i + 2)) (sc_ir xs (i + 3)) (sc_ir xs (i + 4))) ok vc vm
  have M1 := m_X4_read (G := G) (l := l) (sc xs (i + 1)) (sc xs (i + 2)) (sc xs (i + 3)) (sc xs (i + 4)) σ
  have M2 := m_X5_read (G := G) (l := l) (sc xs (i + 1)) (sc xs (i + 2)) (sc xs (i + 3)) (sc xs (i + 4)) σ1
  rw [a1] at M1
  rw [a2] at M2
  refine gw_aload_n (pc' := 1476) dL_law_1475 rfl rfl ?_
  refine gw_aload_n (pc' := 1477) dL_law_1476 rfl rfl ?_
  refine gw_iload_n (pc' := 1478) dL_law_1477 rfl rfl ?_
  refine gw_iconst (pc' := 1479) dL_law_1478 rfl ?_
  refine gw_iadd (pc' := 1480) dL_law_1479 rfl ?_
  refine gw_sld (j := i + 1) (pc' := 1481) (by omega) (by omega) h4 dL_law_1480 rfl ?_
  refine gw_aload_n (pc' := 1482) dL_law_1481 rfl rfl ?_
  refine gw_iload_n (pc' := 1483) dL_law_1482 rfl rfl ?_
  refine gw_iconst (pc' := 1484) dL_law_1483 rfl ?_
  refine gw_iadd (pc' := 1485) dL_law_1484 rfl ?_
  refine gw_sld (j := i + 2) (pc' := 1486) (by omega) (by omega) h4 dL_law_1485 rfl ?_
  refine gw_aload_n (pc' := 1487) dL_law_1486 rfl rfl ?_
  refine gw_iload_n (pc' := 1488) dL_law_1487 rfl rfl ?_
  refine gw_iconst (pc' := 1489) dL_law_1488 rfl ?_
  refine gw_iadd (pc' := 1490) dL_law_1489 rfl ?_
  refine gw_sld (j := i + 3) (pc' := 1491) (by omega) (by omega) h4 dL_law_1490 rfl ?_
  refine gw_aload_n (pc' := 1492) dL_law_1491 rfl rfl ?_
  refine gw_iload_n (pc' := 1493) dL_law_1492 rfl rfl ?_
  refine gw_iconst (pc' := 1494) dL_law_1493 rfl ?_
  refine gw_iadd (pc' := 1495) dL_law_1494 rfl ?_
  refine gw_sld (j := i + 4) (pc' := 1496) (by omega) (by omega) h4 dL_law_1495 rfl ?_
  refine gw_call (pc' := 1499) (As := [vi (sc xs (i + 1)), vi (sc xs (i + 2)), vi (sc xs (i + 3)), vi (sc xs (i + 4))]) (rest := []) dL_law_1496 cv_L_176 tbk_0 M1 rfl rfl rfl rfl rfl ?_
  refine gw_aload_n (pc' := 1500) dL_law_1499 rfl rfl ?_
  refine gw_aload_n (pc' := 1501) dL_law_1500 rfl rfl ?_
  refine gw_iload_n (pc' := 1502) dL_law_1501 rfl rfl ?_
  refine gw_iconst (pc' := 1503) dL_law_1502 rfl ?_
  refine gw_iadd (pc' := 1504) dL_law_1503 rfl ?_
  refine gw_sld (j := i + 1) (pc' := 1505) (by omega) (by omega) h4 dL_law_1504 rfl ?_
  refine gw_aload_n (pc' := 1506) dL_law_1505 rfl rfl ?_
  refine gw_iload_n (pc' := 1507) dL_law_1506 rfl rfl ?_
  refine gw_iconst (pc' := 1508) dL_law_1507 rfl ?_
  refine gw_iadd (pc' := 1509) dL_law_1508 rfl ?_
  refine gw_sld (j := i + 2) (pc' := 1510) (by omega) (by omega) h4 dL_law_1509 rfl ?_
  refine gw_aload_n (pc' := 1511) dL_law_1510 rfl rfl ?_
  refine gw_iload_n (pc' := 1512) dL_law_1511 rfl rfl ?_
  refine gw_iconst (pc' := 1513) dL_law_1512 rfl ?_
  refine gw_iadd (pc' := 1514) dL_law_1513 rfl ?_
  refine gw_sld (j := i + 3) (pc' := 1515) (by omega) (by omega) h4 dL_law_1514 rfl ?_
  refine gw_aload_n (pc' := 1516) dL_law_1515 rfl rfl ?_
  refine gw_iload_n (pc' := 1517) dL_law_1516 rfl rfl ?_
  refine gw_iconst (pc' := 1518) dL_law_1517 rfl ?_
  refine gw_iadd (pc' := 1519) dL_law_1518 rfl ?_
  refine gw_sld (j := i + 4) (pc' := 1520) (by omega) (by omega) h4 dL_law_1519 rfl ?_
  refine gw_call (pc' := 1523) (As := [vi (sc xs (i + 1)), vi (sc xs (i + 2)), vi (sc xs (i + 3)), vi (sc xs (i + 4))]) (rest := [vi _]) dL_law_1520 cv_L_179 tbk_51 M2 rfl rfl rfl rfl rfl ?_
  refine gw_eq (tgt := 1564) dL_law_1523 (by decide) ?_
  exact la_next (K σ2 _ a3 a4 a5)
set_option maxRecDepth 20000 in
theorem ca_torn {G : Gh} {l : Launch} {b L i : Nat} {xs : Nat → Int32} {σ : St} {A : Ab} (h4 : L ≤ 384) (hi : i + 6 ≤ L) (ok : OKA A) (vc : Vc σ A) (vm : Vm σ A) (K : ∀ τ B, OKA B → Vc τ B → Vm τ B → LG G l b L xs 18 [some (.ref b), some (.ref (ad G 0)), some (.ref (ad G 51)), some (vi ((i + 6 : Nat) : Int))] [] τ) : LG G l b L xs 1528 [some (.ref b), some (.ref (ad G 0)), some (.ref (ad G 51)), some (vi (i : Int))] [] σ := by
  obtain ⟨σ1, σ2, a1, a2, a3, a4, a5⟩ := Op.go o_torn ok vc vm
  have M1 := m_X4_torn (G := G) (l := l)  σ
  have M2 := m_X5_torn (G := G) (l := l)  σ1
  rw [a1] at M1
  rw [a2] at M2
  refine gw_aload_n (pc' := 1529) dL_law_1528 rfl rfl ?_
  refine gw_call (pc' := 1532) (As := []) (rest := []) dL_law_1529 cv_L_180 tbk_0 M1 rfl rfl rfl rfl rfl ?_
  refine gw_aload_n (pc' := 1533) dL_law_1532 rfl rfl ?_
  refine gw_call (pc' := 1536) (As := []) (rest := [vi _]) dL_law_1533 cv_L_183 tbk_51 M2 rfl rfl rfl rfl rfl ?_
  refine gw_eq (tgt := 1564) dL_law_1536 (by decide) ?_
  exact la_next (K σ2 _ a3 a4 a5)
set_option maxRecDepth 20000 in
theorem ca_count {G : Gh} {l : Launch} {b L i : Nat} {xs : Nat → Int32} {σ : St} {A : Ab} (h4 : L ≤ 384) (hi : i + 6 ≤ L) (ok : OKA A) (vc : Vc σ A) (vm : Vm σ A) (K : ∀ τ B, OKA B → Vc τ B → Vm τ B → LG G l b L xs 18 [some (.ref b), some (.ref (ad G 0)), some (.ref (ad G 51)), some (vi ((i + 6 : Nat) : Int))] [] τ) : LG G l b L xs 1541 [some (.ref b), some (.ref (ad G 0)), some (.ref (ad G 51)), some (vi (i : Int))] [] σ := by
  obtain ⟨σ1, σ2, a1, a2, a3, a4, a5⟩ := Op.go (o_count (sc_ir xs (i + 1))) ok vc vm
  have M1 := m_X4_count (G := G) (l := l) (sc xs (i + 1)) σ
  have M2 := m_X5_count (G := G) (l := l) (sc xs (i + 1)) σ1
  rw [a1] at M1
  rw [a2] at M2
  refine gw_aload_n (pc' := 1542) dL_law_1541 rfl rfl ?_
  refine gw_aload_n (pc' := 1543) dL_law_1542 rfl rfl ?_
  refine gw_iload_n (pc' := 1544) dL_law_1543 rfl rfl ?_
  refine gw_iconst (pc' := 1545) dL_law_1544 rfl ?_
  refine gw_iadd (pc' := 1546) dL_law_1545 rfl ?_
  refine gw_sld (j := i + 1) (pc' := 1547) (by omega) (by omega) h4 dL_law_1546 rfl ?_
  refine gw_call (pc' := 1550) (As := [vi (sc xs (i + 1))]) (rest := []) dL_law_1547 cv_L_184 tbk_0 M1 rfl rfl rfl rfl rfl ?_
  refine gw_aload_n (pc' := 1551) dL_law_1550 rfl rfl ?_
  refine gw_aload_n (pc' := 1552) dL_law_1551 rfl rfl ?_
  refine gw_iload_n (pc' := 1553) dL_law_1552 rfl rfl ?_
  refine gw_iconst (pc' := 1554) dL_law_1553 rfl ?_
  refine gw_iadd (pc' := 1555) dL_law_1554 rfl ?_
  refine gw_sld (j := i + 1) (pc' := 1556) (by omega) (by omega) h4 dL_law_1555 rfl ?_
  refine gw_call (pc' := 1559) (As := [vi (sc xs (i + 1))]) (rest := [vi _]) dL_law_1556 cv_L_187 tbk_51 M2 rfl rfl rfl rfl rfl ?_
  refine gw_eq (tgt := 1564) dL_law_1559 (by decide) ?_
  exact la_next (K σ2 _ a3 a4 a5)
