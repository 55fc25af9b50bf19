theorem d_law_1241 : decode code 1241 = .ok (.aload_n 1, 1) := by decide +kernel
theorem d_law_1242 : decode code 1242 = .ok (.aload_n 0, 1) := by decide +kernel
theorem d_law_1243 : decode code 1243 = .ok (.iload 4, 2) := by decide +kernel
theorem d_law_1245 : decode code 1245 = .ok (.iconst 1, 1) := by decide +kernel
theorem d_law_1246 : decode code 1246 = .ok (.iadd, 1) := by decide +kernel
theorem d_law_1247 : decode code 1247 = .ok (.iaload, 1) := by decide +kernel
theorem d_law_1248 : decode code 1248 = .ok (.aload_n 0, 1) := by decide +kernel
theorem d_law_1249 : decode code 1249 = .ok (.iload 4, 2) := by decide +kernel
theorem d_law_1251 : decode code 1251 = .ok (.iconst 2, 1) := by decide +kernel
theorem d_law_1252 : decode code 1252 = .ok (.iadd, 1) := by decide +kernel
theorem d_law_1253 : decode code 1253 = .ok (.iaload, 1) := by decide +kernel
theorem d_law_1254 : decode code 1254 = .ok (.i2l, 1) := by decide +kernel
theorem d_law_1255 : decode code 1255 = .ok (.bipush 32, 2) := by decide +kernel
theorem d_law_1257 : decode code 1257 = .ok (.lshl, 1) := by decide +kernel
theorem d_law_1258 : decode code 1258 = .ok (.aload_n 0, 1) := by decide +kernel
theorem d_law_1259 : decode code 1259 = .ok (.iload 4, 2) := by decide +kernel
theorem d_law_1261 : decode code 1261 = .ok (.iconst 3, 1) := by decide +kernel
theorem d_law_1262 : decode code 1262 = .ok (.iadd, 1) := by decide +kernel
theorem d_law_1263 : decode code 1263 = .ok (.iaload, 1) := by decide +kernel
theorem d_law_1264 : decode code 1264 = .ok (.i2l, 1) := by decide +kernel
theorem d_law_1265 : decode code 1265 = .ok (.ldc2_w 70, 3) := by decide +kernel
theorem d_law_1268 : decode code 1268 = .ok (.land, 1) := by decide +kernel
theorem d_law_1269 : decode code 1269 = .ok (.lor, 1) := by decide +kernel
theorem d_law_1270 : decode code 1270 = .ok (.aload_n 0, 1) := by decide +kernel
theorem d_law_1271 : decode code 1271 = .ok (.iload 4, 2) := by decide +kernel
theorem d_law_1273 : decode code 1273 = .ok (.iconst 4, 1) := by decide +kernel
theorem d_law_1274 : decode code 1274 = .ok (.iadd, 1) := by decide +kernel
theorem d_law_1275 : decode code 1275 = .ok (.iaload, 1) := by decide +kernel
theorem d_law_1276 : decode code 1276 = .ok (.i2l, 1) := by decide +kernel
theorem d_law_1277 : decode code 1277 = .ok (.bipush 32, 2) := by decide +kernel
theorem d_law_1279 : decode code 1279 = .ok (.lshl, 1) := by decide +kernel
theorem d_law_1280 : decode code 1280 = .ok (.aload_n 0, 1) := by decide +kernel
theorem d_law_1281 : decode code 1281 = .ok (.iload 4, 2) := by decide +kernel
theorem d_law_1283 : decode code 1283 = .ok (.iconst 5, 1) := by decide +kernel
theorem d_law_1284 : decode code 1284 = .ok (.iadd, 1) := by decide +kernel
theorem d_law_1285 : decode code 1285 = .ok (.iaload, 1) := by decide +kernel
theorem d_law_1286 : decode code 1286 = .ok (.i2l, 1) := by decide +kernel
theorem d_law_1287 : decode code 1287 = .ok (.ldc2_w 70, 3) := by decide +kernel
theorem d_law_1290 : decode code 1290 = .ok (.land, 1) := by decide +kernel
theorem d_law_1291 : decode code 1291 = .ok (.lor, 1) := by decide +kernel
theorem d_law_1292 : decode code 1292 = .ok (.aload_n 0, 1) := by decide +kernel
theorem d_law_1293 : decode code 1293 = .ok (.iload 4, 2) := by decide +kernel
theorem d_law_1295 : decode code 1295 = .ok (.bipush 6, 2) := by decide +kernel
theorem d_law_1297 : decode code 1297 = .ok (.iadd, 1) := by decide +kernel
theorem d_law_1298 : decode code 1298 = .ok (.iaload, 1) := by decide +kernel
theorem d_law_1299 : decode code 1299 = .ok (.i2l, 1) := by decide +kernel
theorem d_law_1300 : decode code 1300 = .ok (.bipush 32, 2) := by decide +kernel
theorem d_law_1302 : decode code 1302 = .ok (.lshl, 1) := by decide +kernel
theorem d_law_1303 : decode code 1303 = .ok (.aload_n 0, 1) := by decide +kernel
theorem d_law_1304 : decode code 1304 = .ok (.iload 4, 2) := by decide +kernel
theorem d_law_1306 : decode code 1306 = .ok (.bipush 7, 2) := by decide +kernel
theorem d_law_1308 : decode code 1308 = .ok (.iadd, 1) := by decide +kernel
theorem d_law_1309 : decode code 1309 = .ok (.iaload, 1) := by decide +kernel
theorem d_law_1310 : decode code 1310 = .ok (.i2l, 1) := by decide +kernel
theorem d_law_1311 : decode code 1311 = .ok (.ldc2_w 70, 3) := by decide +kernel
theorem d_law_1314 : decode code 1314 = .ok (.land, 1) := by decide +kernel
theorem d_law_1315 : decode code 1315 = .ok (.lor, 1) := by decide +kernel
theorem d_law_1316 : decode code 1316 = .ok (.aload_n 3, 1) := by decide +kernel
theorem d_law_1317 : decode code 1317 = .ok (.invokestatic 101, 3) := by decide +kernel
theorem d_law_1320 : decode code 1320 = .ok (.istore 5, 2) := by decide +kernel
theorem d_law_1322 : decode code 1322 = .ok (.aload_n 2, 1) := by decide +kernel
theorem d_law_1323 : decode code 1323 = .ok (.aload_n 0, 1) := by decide +kernel
theorem d_law_1324 : decode code 1324 = .ok (.iload 4, 2) := by decide +kernel
theorem d_law_1326 : decode code 1326 = .ok (.iconst 1, 1) := by decide +kernel
theorem d_law_1327 : decode code 1327 = .ok (.iadd, 1) := by decide +kernel
theorem d_law_1328 : decode code 1328 = .ok (.iaload, 1) := by decide +kernel
theorem d_law_1329 : decode code 1329 = .ok (.aload_n 0, 1) := by decide +kernel
theorem d_law_1330 : decode code 1330 = .ok (.iload 4, 2) := by decide +kernel
theorem d_law_1332 : decode code 1332 = .ok (.iconst 2, 1) := by decide +kernel
theorem d_law_1333 : decode code 1333 = .ok (.iadd, 1) := by decide +kernel
theorem d_law_1334 : decode code 1334 = .ok (.iaload, 1) := by decide +kernel
theorem d_law_1335 : decode code 1335 = .ok (.i2l, 1) := by decide +kernel
theorem d_law_1336 : decode code 1336 = .ok (.bipush 32, 2) := by decide +kernel
theorem d_law_1338 : decode code 1338 = .ok (.lshl, 1) := by decide +kernel
theorem d_law_1339 : decode code 1339 = .ok (.aload_n 0, 1) := by decide +kernel
theorem d_law_1340 : decode code 1340 = .ok (.iload 4, 2) := by decide +kernel
theorem d_law_1342 : decode code 1342 = .ok (.iconst 3, 1) := by decide +kernel
theorem d_law_1343 : decode code 1343 = .ok (.iadd, 1) := by decide +kernel
theorem d_law_1344 : decode code 1344 = .ok (.iaload, 1) := by decide +kernel
theorem d_law_1345 : decode code 1345 = .ok (.i2l, 1) := by decide +kernel
theorem d_law_1346 : decode code 1346 = .ok (.ldc2_w 70, 3) := by decide +kernel
theorem d_law_1349 : decode code 1349 = .ok (.land, 1) := by decide +kernel
theorem d_law_1350 : decode code 1350 = .ok (.lor, 1) := by decide +kernel
theorem d_law_1351 : decode code 1351 = .ok (.aload_n 0, 1) := by decide +kernel
theorem d_law_1352 : decode code 1352 = .ok (.iload 4, 2) := by decide +kernel
theorem d_law_1354 : decode code 1354 = .ok (.iconst 4, 1) := by decide +kernel
theorem d_law_1355 : decode code 1355 = .ok (.iadd, 1) := by decide +kernel
theorem d_law_1356 : decode code 1356 = .ok (.iaload, 1) := by decide +kernel
theorem d_law_1357 : decode code 1357 = .ok (.i2l, 1) := by decide +kernel
theorem d_law_1358 : decode code 1358 = .ok (.bipush 32, 2) := by decide +kernel
theorem d_law_1360 : decode code 1360 = .ok (.lshl, 1) := by decide +kernel
theorem d_law_1361 : decode code 1361 = .ok (.aload_n 0, 1) := by decide +kernel
theorem d_law_1362 : decode code 1362 = .ok (.iload 4, 2) := by decide +kernel
theorem d_law_1364 : decode code 1364 = .ok (.iconst 5, 1) := by decide +kernel
theorem d_law_1365 : decode code 1365 = .ok (.iadd, 1) := by decide +kernel
theorem d_law_1366 : decode code 1366 = .ok (.iaload, 1) := by decide +kernel
theorem d_law_1367 : decode code 1367 = .ok (.i2l, 1) := by decide +kernel
theorem d_law_1368 : decode code 1368 = .ok (.ldc2_w 70, 3) := by decide +kernel
theorem d_law_1371 : decode code 1371 = .ok (.land, 1) := by decide +kernel
theorem d_law_1372 : decode code 1372 = .ok (.lor, 1) := by decide +kernel
theorem d_law_1373 : decode code 1373 = .ok (.aload_n 0, 1) := by decide +kernel
theorem d_law_1374 : decode code 1374 = .ok (.iload 4, 2) := by decide +kernel
theorem d_law_1376 : decode code 1376 = .ok (.bipush 6, 2) := by decide +kernel
theorem d_law_1378 : decode code 1378 = .ok (.iadd, 1) := by decide +kernel
theorem d_law_1379 : decode code 1379 = .ok (.iaload, 1) := by decide +kernel
theorem d_law_1380 : decode code 1380 = .ok (.i2l, 1) := by decide +kernel
theorem d_law_1381 : decode code 1381 = .ok (.bipush 32, 2) := by decide +kernel
theorem d_law_1383 : decode code 1383 = .ok (.lshl, 1) := by decide +kernel
theorem d_law_1384 : decode code 1384 = .ok (.aload_n 0, 1) := by decide +kernel
theorem d_law_1385 : decode code 1385 = .ok (.iload 4, 2) := by decide +kernel
theorem d_law_1387 : decode code 1387 = .ok (.bipush 7, 2) := by decide +kernel
theorem d_law_1389 : decode code 1389 = .ok (.iadd, 1) := by decide +kernel
theorem d_law_1390 : decode code 1390 = .ok (.iaload, 1) := by decide +kernel
theorem d_law_1391 : decode code 1391 = .ok (.i2l, 1) := by decide +kernel
theorem d_law_1392 : decode code 1392 = .ok (.ldc2_w 70, 3) := by decide +kernel
theorem d_law_1395 : decode code 1395 = .ok (.land, 1) := by decide +kernel
theorem d_law_1396 : decode code 1396 = .ok (.lor, 1) := by decide +kernel
theorem d_law_1397 : decode code 1397 = .ok (.invokevirtual 103, 3) := by decide +kernel
theorem d_law_1400 : decode code 1400 = .ok (.istore 6, 2) := by decide +kernel
theorem d_law_1402 : decode code 1402 = .ok (.aload_n 2, 1) := by decide +kernel
theorem d_law_1403 : decode code 1403 = .ok (.invokevirtual 78, 3) := by decide +kernel
theorem d_law_1406 : decode code 1406 = .ok (.iload 5, 2) := by decide +kernel
theorem d_law_1408 : decode code 1408 = .ok (.if_icmp .eq 5, 3) := by decide +kernel
theorem d_law_1411 : decode code 1411 = .ok (.iconst 0, 1) := by decide +kernel
theorem d_law_1412 : decode code 1412 = .ok (.ireturn, 1) := by decide +kernel
theorem d_law_1413 : decode code 1413 = .ok (.iload 5, 2) := by decide +kernel
theorem d_law_1415 : decode code 1415 = .ok (.ifCond .ne 15, 3) := by decide +kernel
theorem d_law_1418 : decode code 1418 = .ok (.aload_n 3, 1) := by decide +kernel
theorem d_law_1419 : decode code 1419 = .ok (.iconst 0, 1) := by decide +kernel
theorem d_law_1420 : decode code 1420 = .ok (.laload, 1) := by decide +kernel
theorem d_law_1421 : decode code 1421 = .ok (.iload 6, 2) := by decide +kernel
theorem d_law_1423 : decode code 1423 = .ok (.i2l, 1) := by decide +kernel
theorem d_law_1424 : decode code 1424 = .ok (.lcmp, 1) := by decide +kernel
theorem d_law_1425 : decode code 1425 = .ok (.ifCond .eq 5, 3) := by decide +kernel
theorem d_law_1428 : decode code 1428 = .ok (.iconst 0, 1) := by decide +kernel
theorem d_law_1429 : decode code 1429 = .ok (.ireturn, 1) := by decide +kernel
theorem d_law_1430 : decode code 1430 = .ok (.goto 535, 3) := by decide +kernel
set_option maxHeartbeats 16000000 in
set_option maxRecDepth 100000 in
theorem bk_share_g {p : Program} {l : Launch} {e : Env} {s : State} {m : MethodId} {below : List Frame} {meth : Method} {c : Code} {b L : Nat} {xs : Nat → Int32} {dC : Nat → ClassId} {dI : Nat → Nat → Nat} {cJ cI cR : ClassId} {A : Nat → Prop} {out b0 m0 : Nat} {rA sA wA : Nat} (C : LC p l s m meth c b L xs dC dI cJ cI cR A rA sA wA) {i cells slots : Nat} (hi : i + 14 ≤ L) (hcs : cells + 20 ≤ 601024 ∧ slots + 200 ≤ 7293034) (cont : LK p l e s m below meth c b dC dI cJ cI cR A out b0 m0 i (cells + 20) (slots + 200) 1965) {H : Heap} {locs : List Loc} {ls : Array Slot} (hS : va_S A s.heap H locs) (hI : LG dC dI cJ cI cR A out b0 m0 H) (hl : lv_has ls 8 [(4, .int (nI i)), (3, .ref out), (2, .ref m0), (1, .ref b0), (0, .ref b)]) : W p l e room_1 s m #[Value.ref b] below meth c H locs cells slots (lw_Z below #[Value.ref b] s) (F0 m 1241 ls []) := by
  obtain ⟨hnt, ⟨hx, hb, hr, hml, hown, hts0, hX, hbl, hlocks, hgv⟩, hK, hA, hbA, hZha, hZx, hZn, hZw, hL⟩ := C
  have hown : s.vm.findClass "BallotBoardLaw" = some m.cls := hown
  have hts := lw_hts hts0
  refine hI _ (fun bd0 pr0 t0 au0 da h0 ro lo rb lb cm aw ax ay ka aa ba sa tu0 uka uaa uba usa a0 a1 a2 a3 a4 a5 a6 a7 a8 a9 mb0 mb1 oc mb2 mb3 mb4 mb5 cL of w tf nf cf ky lf md sh ccf csc cst bf sc st kf sf vf ct gu d0 d1 d2 d3 d4 d5 d6 d7 e0 R Lk g0 mF mE P f1 k1 Q f2 k2 G N n sd bc al pa pb cl T T0 kd wh hP hD hR => ?_)
  have q1 := hR.1.2.2.2.1.1
  subst q1
  have q2 := hR.2.2.2.1.1
  subst q2
  have q3 := hR.2.2.2.1.2.1
  subst q3
  have q4 := hR.2.2.2.1.2.2.1
  subst q4
  have q5 := hR.2.2.2.1.2.2.2.1
  subst q5
  have q6 := hR.2.2.2.1.2.2.2.2.1
  subst q6
  obtain ⟨⟨hok, htok, hN0, htn, hkc, hn⟩, ⟨hnO, hnS, hn0S, hn0B, hbc, hsc, hsh0⟩, ⟨hgr, hrk, hrs, hrb, hko, hkP⟩, ⟨hal, hclN, hky, hpa, hmd, haP, hbP⟩, ⟨hsP, hsp, hpb, hwf, hEI, hnfR, hcfR, hkf⟩, ⟨hnfk, hkq, hsd, hsn, hsdd, h0k, hkca⟩, ⟨hPQ, h61F, hQ3, hG2, hGP, hGQ⟩, hTt, hTt0, hRT⟩ := LG_facts hR
  obtain ⟨x1, hx1⟩ : ∃ v, v = xs (i + 1) := ⟨_, rfl⟩
  obtain ⟨x2, hx2⟩ : ∃ v, v = jl (xs (i + 2)) (xs (i + 3)) := ⟨_, rfl⟩
  obtain ⟨x3, hx3⟩ : ∃ v, v = jl (xs (i + 4)) (xs (i + 5)) := ⟨_, rfl⟩
  obtain ⟨x4, hx4⟩ : ∃ v, v = jl (xs (i + 6)) (xs (i + 7)) := ⟨_, rfl⟩
  by_cases hC1 : sC1 T x1
  · -- it holds
    refine lv_aload_n hx hb d_law_1241 rfl (lv_at hl 3 rfl) ?_
    refine lv_aload_n hx hb d_law_1242 rfl (lv_at hl 4 rfl) ?_
    refine lv_iload hx hb d_law_1243 (lv_at hl 0 rfl) ?_
    refine lv_iconst (v := 1) hx hb d_law_1245 (by decide) ?_
    refine lv_iadd hx hb d_law_1246 ?_
    rw [show ((nI i) + 1 : Int32) = nI (i + 1) from nI_add _ 1]
    refine va_sld hx hb hX hbl hbA hS (vp_in_nI (by omega) (by omega)) d_law_1247 ?_
    rw [show (xs (nI (i + 1)).toNatClampNeg : Int32) = xs (i + 1) from by rw [nI_clamp (by omega)]]
    rw [show (xs (i + 1) : Int32) = x1 from hx1.symm]
    refine lv_aload_n hx hb d_law_1248 rfl (lv_at hl 4 rfl) ?_
    refine lv_iload hx hb d_law_1249 (lv_at hl 0 rfl) ?_
    refine lv_iconst (v := 2) hx hb d_law_1251 (by decide) ?_
    refine lv_iadd hx hb d_law_1252 ?_
    rw [show ((nI i) + 2 : Int32) = nI (i + 2) from nI_add _ 2]
    refine va_sld hx hb hX hbl hbA hS (vp_in_nI (by omega) (by omega)) d_law_1253 ?_
    rw [show (xs (nI (i + 2)).toNatClampNeg : Int32) = xs (i + 2) from by rw [nI_clamp (by omega)]]
    refine lv_i2l (v := (xs (i + 2) : Int32).toInt64) hx hb d_law_1254 rfl ?_
    refine lv_bipush (v := 32) hx hb d_law_1255 (by decide) ?_
    refine lv_lshl (v := ((xs (i + 2) : Int32).toInt64 : Int64) <<< ((32 : Int32).toInt64 &&& 63)) hx hb d_law_1257 rfl ?_
    refine lv_aload_n hx hb d_law_1258 rfl (lv_at hl 4 rfl) ?_
    refine lv_iload hx hb d_law_1259 (lv_at hl 0 rfl) ?_
    refine lv_iconst (v := 3) hx hb d_law_1261 (by decide) ?_
    refine lv_iadd hx hb d_law_1262 ?_
    rw [show ((nI i) + 3 : Int32) = nI (i + 3) from nI_add _ 3]
    refine va_sld hx hb hX hbl hbA hS (vp_in_nI (by omega) (by omega)) d_law_1263 ?_
    rw [show (xs (nI (i + 3)).toNatClampNeg : Int32) = xs (i + 3) from by rw [nI_clamp (by omega)]]
    refine lv_i2l (v := (xs (i + 3) : Int32).toInt64) hx hb d_law_1264 rfl ?_
    refine lv_ldc2 (v := 4294967295) hx hb hown (hts _ (List.mem_cons_of_mem _ gk_1202)) d_law_1265 ?_
    refine lv_land hx hb d_law_1268 ?_
    refine lv_lor hx hb d_law_1269 ?_
    rw [show ((((xs (i + 2) : Int32).toInt64 : Int64) <<< ((32 : Int32).toInt64 &&& 63)) ||| (((xs (i + 3) : Int32).toInt64) &&& 4294967295) : Int64) = x2 from hx2.symm]
    refine lv_aload_n hx hb d_law_1270 rfl (lv_at hl 4 rfl) ?_
    refine lv_iload hx hb d_law_1271 (lv_at hl 0 rfl) ?_
    refine lv_iconst (v := 4) hx hb d_law_1273 (by decide) ?_
    refine lv_iadd hx hb d_law_1274 ?_
    rw [show ((nI i) + 4 : Int32) = nI (i + 4) from nI_add _ 4]
    refine va_sld hx hb hX hbl hbA hS (vp_in_nI (by omega) (by omega)) d_law_1275 ?_
    rw [show (xs (nI (i + 4)).toNatClampNeg : Int32) = xs (i + 4) from by rw [nI_clamp (by omega)]]
    refine lv_i2l (v := (xs (i + 4) : Int32).toInt64) hx hb d_law_1276 rfl ?_
    refine lv_bipush (v := 32) hx hb d_law_1277 (by decide) ?_
    refine lv_lshl (v := ((xs (i + 4) : Int32).toInt64 : Int64) <<< ((32 : Int32).toInt64 &&& 63)) hx hb d_law_1279 rfl ?_
    refine lv_aload_n hx hb d_law_1280 rfl (lv_at hl 4 rfl) ?_
    refine lv_iload hx hb d_law_1281 (lv_at hl 0 rfl) ?_
    refine lv_iconst (v := 5) hx hb d_law_1283 (by decide) ?_
    refine lv_iadd hx hb d_law_1284 ?_
    rw [show ((nI i) + 5 : Int32) = nI (i + 5) from nI_add _ 5]
    refine va_sld hx hb hX hbl hbA hS (vp_in_nI (by omega) (by omega)) d_law_1285 ?_
    rw [show (xs (nI (i + 5)).toNatClampNeg : Int32) = xs (i + 5) from by rw [nI_clamp (by omega)]]
    refine lv_i2l (v := (xs (i + 5) : Int32).toInt64) hx hb d_law_1286 rfl ?_
    refine lv_ldc2 (v := 4294967295) hx hb hown (hts _ (List.mem_cons_of_mem _ gk_1202)) d_law_1287 ?_
    refine lv_land hx hb d_law_1290 ?_
    refine lv_lor hx hb d_law_1291 ?_
    rw [show ((((xs (i + 4) : Int32).toInt64 : Int64) <<< ((32 : Int32).toInt64 &&& 63)) ||| (((xs (i + 5) : Int32).toInt64) &&& 4294967295) : Int64) = x3 from hx3.symm]
    refine lv_aload_n hx hb d_law_1292 rfl (lv_at hl 4 rfl) ?_
    refine lv_iload hx hb d_law_1293 (lv_at hl 0 rfl) ?_
    refine lv_bipush (v := 6) hx hb d_law_1295 (by decide) ?_
    refine lv_iadd hx hb d_law_1297 ?_
    rw [show ((nI i) + 6 : Int32) = nI (i + 6) from nI_add _ 6]
    refine va_sld hx hb hX hbl hbA hS (vp_in_nI (by omega) (by omega)) d_law_1298 ?_
    rw [show (xs (nI (i + 6)).toNatClampNeg : Int32) = xs (i + 6) from by rw [nI_clamp (by omega)]]
    refine lv_i2l (v := (xs (i + 6) : Int32).toInt64) hx hb d_law_1299 rfl ?_
    refine lv_bipush (v := 32) hx hb d_law_1300 (by decide) ?_
    refine lv_lshl (v := ((xs (i + 6) : Int32).toInt64 : Int64) <<< ((32 : Int32).toInt64 &&& 63)) hx hb d_law_1302 rfl ?_
    refine lv_aload_n hx hb d_law_1303 rfl (lv_at hl 4 rfl) ?_
    refine lv_iload hx hb d_law_1304 (lv_at hl 0 rfl) ?_
    refine lv_bipush (v := 7) hx hb d_law_1306 (by decide) ?_
    refine lv_iadd hx hb d_law_1308 ?_
    rw [show ((nI i) + 7 : Int32) = nI (i + 7) from nI_add _ 7]
    refine va_sld hx hb hX hbl hbA hS (vp_in_nI (by omega) (by omega)) d_law_1309 ?_
    rw [show (xs (nI (i + 7)).toNatClampNeg : Int32) = xs (i + 7) from by rw [nI_clamp (by omega)]]
    refine lv_i2l (v := (xs (i + 7) : Int32).toInt64) hx hb d_law_1310 rfl ?_
    refine lv_ldc2 (v := 4294967295) hx hb hown (hts _ (List.mem_cons_of_mem _ gk_1202)) d_law_1311 ?_
    refine lv_land hx hb d_law_1314 ?_
    refine lv_lor hx hb d_law_1315 ?_
    rw [show ((((xs (i + 6) : Int32).toInt64 : Int64) <<< ((32 : Int32).toInt64 &&& 63)) ||| (((xs (i + 7) : Int32).toInt64) &&& 4294967295) : Int64) = x4 from hx4.symm]
    refine lv_aload_n hx hb d_law_1316 rfl (lv_at hl 1 rfl) ?_
    have hPc := hP.part (cx := (jw_ws out cJ 1 of ++ (bb_ws b0 bd0 pr0 t0 au0 da (.ref g0) ++ (rw_ws da cJ (r8 d0 d1 d2 d3 d4 d5 d6 d7) ++ (bd_ws bd0 h0 ro lo n cR (rrf rb) (rrf lb) ++ (pr_ws pr0 h0 cm cJ ccf ++ (ha_ws h0 aw ax ay cJ cI w csc cst cL ++ (tt_ws t0 ka aa ba sa (.ref g0) cJ T ++ gp_ws g0 mF mE P f1 k1 Q f2 k2 G)))))))) [0, 1, 2, 3, 4, 5, 6, 7, 8, 9, 10, 11, 12, 13, 14, 15, 16, 23, 24, 25] rfl
    have hDc := hD.part (cx := (jw_ws out cJ 1 of ++ (bb_ws b0 bd0 pr0 t0 au0 da (.ref g0) ++ (rw_ws da cJ (r8 d0 d1 d2 d3 d4 d5 d6 d7) ++ (bd_ws bd0 h0 ro lo n cR (rrf rb) (rrf lb) ++ (pr_ws pr0 h0 cm cJ ccf ++ (ha_ws h0 aw ax ay cJ cI w csc cst cL ++ (tt_ws t0 ka aa ba sa (.ref g0) cJ T ++ gp_ws g0 mF mE P f1 k1 Q f2 k2 G)))))))) [0, 1, 2, 3, 4, 5, 6, 7, 8, 9, 10, 11, 12, 13, 14, 15, 16, 23, 24, 25] (by decide) rfl
    have hKc := hK.sub (tys' := [(cJ, .long), (cI, .int), (cR, .array .long)]) [0, 1, 2] rfl
    have hFc := va_freeP (cx := (jw_ws out cJ 1 of ++ (bb_ws b0 bd0 pr0 t0 au0 da (.ref g0) ++ (rw_ws da cJ (r8 d0 d1 d2 d3 d4 d5 d6 d7) ++ (bd_ws bd0 h0 ro lo n cR (rrf rb) (rrf lb) ++ (pr_ws pr0 h0 cm cJ ccf ++ (ha_ws h0 aw ax ay cJ cI w csc cst cL ++ (tt_ws t0 ka aa ba sa (.ref g0) cJ T ++ gp_ws g0 mF mE P f1 k1 Q f2 k2 G)))))))) hD hS hA [0, 1, 2, 3, 4, 5, 6, 7, 8, 9, 10, 11, 12, 13, 14, 15, 16, 23, 24, 25] rfl
    have hZc0 : ha_Z rA sA (va_A ((jw_ws out cJ 1 of ++ (bb_ws b0 bd0 pr0 t0 au0 da (.ref g0) ++ (rw_ws da cJ (r8 d0 d1 d2 d3 d4 d5 d6 d7) ++ (bd_ws bd0 h0 ro lo n cR (rrf rb) (rrf lb) ++ (pr_ws pr0 h0 cm cJ ccf ++ (ha_ws h0 aw ax ay cJ cI w csc cst cL ++ (tt_ws t0 ka aa ba sa (.ref g0) cJ T ++ gp_ws g0 mF mE P f1 k1 Q f2 k2 G))))))) ++ bpool rb lb cJ R Lk) H.size) s H := (hZha.kept hS.2.1).narrow hFc
    have hZc1 : xz (va_A ((jw_ws out cJ 1 of ++ (bb_ws b0 bd0 pr0 t0 au0 da (.ref g0) ++ (rw_ws da cJ (r8 d0 d1 d2 d3 d4 d5 d6 d7) ++ (bd_ws bd0 h0 ro lo n cR (rrf rb) (rrf lb) ++ (pr_ws pr0 h0 cm cJ ccf ++ (ha_ws h0 aw ax ay cJ cI w csc cst cL ++ (tt_ws t0 ka aa ba sa (.ref g0) cJ T ++ gp_ws g0 mF mE P f1 k1 Q f2 k2 G))))))) ++ bpool rb lb cJ R Lk) H.size) s H := (hZx.kept hS.2.1).narrow hFc
    have hZc2 : nc_Z s := hZn
    refine vx_calli (vx_runSX (hh := h_Lw_share) (As := [.ref b0, .int x1, .long x2, .long x3, .long x4, .ref out]) (rest := []) ⟨hx, hb, hml, hown, hts⟩ (c_Lw_share_1 l hnt dC dI cJ cI cR H.size b0 bd0 pr0 t0 au0 da h0 ro lo n rb lb cm ccf aw ax ay w csc cst cL ka aa ba sa T g0 mF mE P f1 k1 Q f2 k2 G rA sA R Lk d0 d1 d2 d3 d4 d5 d6 d7 x1 x2 x3 x4 out of hok htok hN0 htn hkc hn hnS hn0S hC1) (vx_cwSW 6 hts (gw_Sv gk_702 gk_703 gk_0 gk_704) rfl rfl rfl (by decide +kernel) ⟨(Nat.le_of_ble_eq_true rfl), (Nat.le_of_ble_eq_true rfl)⟩) ⟨fun a U g mk q => by obtain ⟨q0, q1, qP, qK, qD, qZ0, qZ1, qZ2⟩ := q; exact ⟨q0, q1, qP, va_K.moved (u := U) (U := U.calling g mk a) (Vm.Alike.refl U.vm) qK, qD, ha_Z.moved (u := U) (U := U.calling g mk a) (Vm.Alike.refl U.vm) qZ0, xz.same (u := U) (U := U.calling g mk a) rfl qZ1, nc_Z.moved (u := U) (U := U.calling g mk a) (Vm.Alike.refl U.vm) qZ2⟩, fun U hU hW => ⟨rfl, by rw [hU], by rw [hU]; exact hPc, va_K.moved hW.alike hKc, hDc.weaken (fun _ _ _ _ => trivial), by rw [hU]; exact ha_Z.moved hW.alike hZc0, by rw [hU]; exact xz.warm hW hZc1, nc_Z.moved hW.alike hZc2⟩⟩ rfl rfl hl.1 rfl (lv_room (Nat.le_of_ble_eq_true rfl)) d_law_1317 ⟨show cells + 8 ≤ 601024 by omega, show slots + 48 ≤ 7293034 by omega⟩) hS (fun q _ h => hFc q h) hFc (fun q _ h => hFc q h) (fun E9 ce9 q9 u8 t9 H1 locs ht hvm hpx hbx hz1 hk1 hS hce hcv hcl => hpx.elim) (fun r_1 u9 t9 H1 locs ht hvm hw hB hz1 hk1 hS => ?_)
    obtain ⟨hP1, hK1, hD1⟩ := hB
    rw [ht] at hP1
    obtain ⟨hP, hD⟩ := va_joinP (X := (jw_ws out cJ 1 of ++ (bb_ws b0 bd0 pr0 t0 au0 da (.ref g0) ++ (rw_ws da cJ (r8 d0 d1 d2 d3 d4 d5 d6 d7) ++ (bd_ws bd0 h0 ro lo n cR (rrf rb) (rrf lb) ++ (pr_ws pr0 h0 cm cJ ccf ++ (ha_ws h0 aw ax ay cJ cI w csc cst cL ++ (tt_ws t0 ka aa ba sa (.ref g0) cJ T ++ (au_ws au0 bd0 pr0 tu0 sd ++ (tt_ws tu0 uka uaa uba usa gu cJ T0 ++ (gp_ws g0 mF mE P f1 k1 Q f2 k2 G ++ (mo_ws m0 e0 (nI (t_tn T)) (nI n) (nI (t_bc T)) (lN P) (lN Q) (lN G) (lN (ckey (t_tn T) (t_kc T) (t_kp T))) (lN (t_pa T)) (lN (t_pb T)) (t_sht T) a0 a1 a2 a3 a4 a5 a6 a7 a8 a9 mb0 mb1 oc mb2 mb3 mb4 mb5 ++ (iw_ws a7 cI 256 bf ++ (iw_ws a8 cI 64 sc ++ (iw_ws a9 cI 8 st ++ (iw_ws mb0 cI 8 kS ++ (iw_ws mb1 cI 64 kR ++ (jw_ws a2 cJ 4 tf ++ (jw_ws a0 cJ 1232 nf ++ (jw_ws a1 cJ 616 cf ++ (iw_ws a4 cI 4 kf ++ (jw_ws mb2 cJ 4 ky ++ (jw_ws a3 cJ 16 lf ++ (iw_ws a5 cI 4 sf ++ (iw_ws a6 cI 64 vf ++ (jw_ws mb3 cJ 128 md ++ (jw_ws mb4 cJ 4 sh ++ iw_ws mb5 cI 64 ct))))))))))))))))))))))))))) (cx := (jw_ws out cJ 1 of ++ (bb_ws b0 bd0 pr0 t0 au0 da (.ref g0) ++ (rw_ws da cJ (r8 d0 d1 d2 d3 d4 d5 d6 d7) ++ (bd_ws bd0 h0 ro lo n cR (rrf rb) (rrf lb) ++ (pr_ws pr0 h0 cm cJ ccf ++ (ha_ws h0 aw ax ay cJ cI w csc cst cL ++ (tt_ws t0 ka aa ba sa (.ref g0) cJ T ++ gp_ws g0 mF mE P f1 k1 Q f2 k2 G)))))))) (wr := (au_ws au0 bd0 pr0 tu0 sd ++ (tt_ws tu0 uka uaa uba usa gu cJ T0 ++ (mo_ws m0 e0 (nI (t_tn T)) (nI n) (nI (t_bc T)) (lN P) (lN Q) (lN G) (lN (ckey (t_tn T) (t_kc T) (t_kp T))) (lN (t_pa T)) (lN (t_pb T)) (t_sht T) a0 a1 a2 a3 a4 a5 a6 a7 a8 a9 mb0 mb1 oc mb2 mb3 mb4 mb5 ++ (iw_ws a7 cI 256 bf ++ (iw_ws a8 cI 64 sc ++ (iw_ws a9 cI 8 st ++ (iw_ws mb0 cI 8 kS ++ (iw_ws mb1 cI 64 kR ++ (jw_ws a2 cJ 4 tf ++ (jw_ws a0 cJ 1232 nf ++ (jw_ws a1 cJ 616 cf ++ (iw_ws a4 cI 4 kf ++ (jw_ws mb2 cJ 4 ky ++ (jw_ws a3 cJ 16 lf ++ (iw_ws a5 cI 4 sf ++ (iw_ws a6 cI 64 vf ++ (jw_ws mb3 cJ 128 md ++ (jw_ws mb4 cJ 4 sh ++ iw_ws mb5 cI 64 ct))))))))))))))))))) (rx := (jw_ws out cJ 1 of ++ (bb_ws b0 bd0 pr0 t0 au0 da (.ref g0) ++ (rw_ws da cJ (r8 u9.1.1 u9.1.2.1 u9.1.2.2.1 u9.1.2.2.2.1 u9.1.2.2.2.2.1 u9.1.2.2.2.2.2.1 u9.1.2.2.2.2.2.2.1 u9.1.2.2.2.2.2.2.2) ++ (bd_ws bd0 h0 ro lo n cR (rrf rb) (rrf lb) ++ (pr_ws pr0 h0 cm cJ u9.2.1 ++ (hu_ws h0 aw ax ay cJ cI u9.2.2 ++ (tt_ws t0 ka aa ba sa (.ref g0) cJ T ++ gp_ws g0 mF mE P f1 k1 Q f2 k2 G)))))))) (pl := bpool rb lb cJ R Lk) (pl1 := bpool rb lb cJ R Lk) hP hD [0, 1, 2, 3, 4, 5, 6, 7, 8, 9, 10, 11, 12, 13, 14, 15, 16, 23, 24, 25] [17, 18, 19, 20, 21, 22, 26, 27, 28, 29, 30, 31, 32, 33, 34, 35, 36, 37, 38, 39, 40, 41, 42] rfl rfl (by decide) (by decide) hk1 hFc hP1 hD1
    have hP := hP.part (cx := (jw_ws out cJ 1 of ++ (bb_ws b0 bd0 pr0 t0 au0 da (.ref g0) ++ (rw_ws da cJ (r8 u9.1.1 u9.1.2.1 u9.1.2.2.1 u9.1.2.2.2.1 u9.1.2.2.2.2.1 u9.1.2.2.2.2.2.1 u9.1.2.2.2.2.2.2.1 u9.1.2.2.2.2.2.2.2) ++ (bd_ws bd0 h0 ro lo n cR (rrf rb) (rrf lb) ++ (pr_ws pr0 h0 cm cJ u9.2.1 ++ (hu_ws h0 aw ax ay cJ cI u9.2.2 ++ (tt_ws t0 ka aa ba sa (.ref g0) cJ T ++ (au_ws au0 bd0 pr0 tu0 sd ++ (tt_ws tu0 uka uaa uba usa gu cJ T0 ++ (gp_ws g0 mF mE P f1 k1 Q f2 k2 G ++ (mo_ws m0 e0 (nI (t_tn T)) (nI n) (nI (t_bc T)) (lN P) (lN Q) (lN G) (lN (ckey (t_tn T) (t_kc T) (t_kp T))) (lN (t_pa T)) (lN (t_pb T)) (t_sht T) a0 a1 a2 a3 a4 a5 a6 a7 a8 a9 mb0 mb1 oc mb2 mb3 mb4 mb5 ++ (iw_ws a7 cI 256 bf ++ (iw_ws a8 cI 64 sc ++ (iw_ws a9 cI 8 st ++ (iw_ws mb0 cI 8 kS ++ (iw_ws mb1 cI 64 kR ++ (jw_ws a2 cJ 4 tf ++ (jw_ws a0 cJ 1232 nf ++ (jw_ws a1 cJ 616 cf ++ (iw_ws a4 cI 4 kf ++ (jw_ws mb2 cJ 4 ky ++ (jw_ws a3 cJ 16 lf ++ (iw_ws a5 cI 4 sf ++ (iw_ws a6 cI 64 vf ++ (jw_ws mb3 cJ 128 md ++ (jw_ws mb4 cJ 4 sh ++ iw_ws mb5 cI 64 ct))))))))))))))))))))))))))) [23, 24, 25, 26, 27, 28, 29, 30, 31, 32, 33, 34, 35, 36, 37, 38, 39, 0, 1, 2, 3, 4, 5, 40, 41, 42, 6, 7, 8, 9, 10, 11, 12, 13, 14, 15, 16, 17, 18, 19, 20, 21, 22] rfl
    have hD := hD.part (cx := (jw_ws out cJ 1 of ++ (bb_ws b0 bd0 pr0 t0 au0 da (.ref g0) ++ (rw_ws da cJ (r8 u9.1.1 u9.1.2.1 u9.1.2.2.1 u9.1.2.2.2.1 u9.1.2.2.2.2.1 u9.1.2.2.2.2.2.1 u9.1.2.2.2.2.2.2.1 u9.1.2.2.2.2.2.2.2) ++ (bd_ws bd0 h0 ro lo n cR (rrf rb) (rrf lb) ++ (pr_ws pr0 h0 cm cJ u9.2.1 ++ (hu_ws h0 aw ax ay cJ cI u9.2.2 ++ (tt_ws t0 ka aa ba sa (.ref g0) cJ T ++ (au_ws au0 bd0 pr0 tu0 sd ++ (tt_ws tu0 uka uaa uba usa gu cJ T0 ++ (gp_ws g0 mF mE P f1 k1 Q f2 k2 G ++ (mo_ws m0 e0 (nI (t_tn T)) (nI n) (nI (t_bc T)) (lN P) (lN Q) (lN G) (lN (ckey (t_tn T) (t_kc T) (t_kp T))) (lN (t_pa T)) (lN (t_pb T)) (t_sht T) a0 a1 a2 a3 a4 a5 a6 a7 a8 a9 mb0 mb1 oc mb2 mb3 mb4 mb5 ++ (iw_ws a7 cI 256 bf ++ (iw_ws a8 cI 64 sc ++ (iw_ws a9 cI 8 st ++ (iw_ws mb0 cI 8 kS ++ (iw_ws mb1 cI 64 kR ++ (jw_ws a2 cJ 4 tf ++ (jw_ws a0 cJ 1232 nf ++ (jw_ws a1 cJ 616 cf ++ (iw_ws a4 cI 4 kf ++ (jw_ws mb2 cJ 4 ky ++ (jw_ws a3 cJ 16 lf ++ (iw_ws a5 cI 4 sf ++ (iw_ws a6 cI 64 vf ++ (jw_ws mb3 cJ 128 md ++ (jw_ws mb4 cJ 4 sh ++ iw_ws mb5 cI 64 ct))))))))))))))))))))))))))) [23, 24, 25, 26, 27, 28, 29, 30, 31, 32, 33, 34, 35, 36, 37, 38, 39, 0, 1, 2, 3, 4, 5, 40, 41, 42, 6, 7, 8, 9, 10, 11, 12, 13, 14, 15, 16, 17, 18, 19, 20, 21, 22] (by decide) rfl
    generalize H1 = H at hP hS ⊢
    clear hPc hDc hFc hP1 hD1 hK1 ht hk1 hz1
    have hr9 : r_1 = 1 := hw
    subst hr9
    refine lv_istore (lv' := [(5, .int 1), (4, .int (nI i)), (3, .ref out), (2, .ref m0), (1, .ref b0), (0, .ref b)]) hx hb d_law_1320 hl (by decide) rfl (fun ls hl => ?_)
    refine lv_aload_n hx hb d_law_1322 rfl (lv_at hl 3 rfl) ?_
    refine lv_aload_n hx hb d_law_1323 rfl (lv_at hl 5 rfl) ?_
    refine lv_iload hx hb d_law_1324 (lv_at hl 1 rfl) ?_
    refine lv_iconst (v := 1) hx hb d_law_1326 (by decide) ?_
    refine lv_iadd hx hb d_law_1327 ?_
    rw [show ((nI i) + 1 : Int32) = nI (i + 1) from nI_add _ 1]
    refine va_sld hx hb hX hbl hbA hS (vp_in_nI (by omega) (by omega)) d_law_1328 ?_
    rw [show (xs (nI (i + 1)).toNatClampNeg : Int32) = xs (i + 1) from by rw [nI_clamp (by omega)]]
    rw [show (xs (i + 1) : Int32) = x1 from hx1.symm]
    refine lv_aload_n hx hb d_law_1329 rfl (lv_at hl 5 rfl) ?_
    refine lv_iload hx hb d_law_1330 (lv_at hl 1 rfl) ?_
    refine lv_iconst (v := 2) hx hb d_law_1332 (by decide) ?_
    refine lv_iadd hx hb d_law_1333 ?_
    rw [show ((nI i) + 2 : Int32) = nI (i + 2) from nI_add _ 2]
    refine va_sld hx hb hX hbl hbA hS (vp_in_nI (by omega) (by omega)) d_law_1334 ?_
    rw [show (xs (nI (i + 2)).toNatClampNeg : Int32) = xs (i + 2) from by rw [nI_clamp (by omega)]]
    refine lv_i2l (v := (xs (i + 2) : Int32).toInt64) hx hb d_law_1335 rfl ?_
    refine lv_bipush (v := 32) hx hb d_law_1336 (by decide) ?_
    refine lv_lshl (v := ((xs (i + 2) : Int32).toInt64 : Int64) <<< ((32 : Int32).toInt64 &&& 63)) hx hb d_law_1338 rfl ?_
    refine lv_aload_n hx hb d_law_1339 rfl (lv_at hl 5 rfl) ?_
    refine lv_iload hx hb d_law_1340 (lv_at hl 1 rfl) ?_
    refine lv_iconst (v := 3) hx hb d_law_1342 (by decide) ?_
    refine lv_iadd hx hb d_law_1343 ?_
    rw [show ((nI i) + 3 : Int32) = nI (i + 3) from nI_add _ 3]
    refine va_sld hx hb hX hbl hbA hS (vp_in_nI (by omega) (by omega)) d_law_1344 ?_
    rw [show (xs (nI (i + 3)).toNatClampNeg : Int32) = xs (i + 3) from by rw [nI_clamp (by omega)]]
    refine lv_i2l (v := (xs (i + 3) : Int32).toInt64) hx hb d_law_1345 rfl ?_
    refine lv_ldc2 (v := 4294967295) hx hb hown (hts _ (List.mem_cons_of_mem _ gk_1202)) d_law_1346 ?_
    refine lv_land hx hb d_law_1349 ?_
    refine lv_lor hx hb d_law_1350 ?_
    rw [show ((((xs (i + 2) : Int32).toInt64 : Int64) <<< ((32 : Int32).toInt64 &&& 63)) ||| (((xs (i + 3) : Int32).toInt64) &&& 4294967295) : Int64) = x2 from hx2.symm]
    refine lv_aload_n hx hb d_law_1351 rfl (lv_at hl 5 rfl) ?_
    refine lv_iload hx hb d_law_1352 (lv_at hl 1 rfl) ?_
    refine lv_iconst (v := 4) hx hb d_law_1354 (by decide) ?_
    refine lv_iadd hx hb d_law_1355 ?_
    rw [show ((nI i) + 4 : Int32) = nI (i + 4) from nI_add _ 4]
    refine va_sld hx hb hX hbl hbA hS (vp_in_nI (by omega) (by omega)) d_law_1356 ?_
    rw [show (xs (nI (i + 4)).toNatClampNeg : Int32) = xs (i + 4) from by rw [nI_clamp (by omega)]]
    refine lv_i2l (v := (xs (i + 4) : Int32).toInt64) hx hb d_law_1357 rfl ?_
    refine lv_bipush (v := 32) hx hb d_law_1358 (by decide) ?_
    refine lv_lshl (v := ((xs (i + 4) : Int32).toInt64 : Int64) <<< ((32 : Int32).toInt64 &&& 63)) hx hb d_law_1360 rfl ?_
    refine lv_aload_n hx hb d_law_1361 rfl (lv_at hl 5 rfl) ?_
    refine lv_iload hx hb d_law_1362 (lv_at hl 1 rfl) ?_
    refine lv_iconst (v := 5) hx hb d_law_1364 (by decide) ?_
    refine lv_iadd hx hb d_law_1365 ?_
    rw [show ((nI i) + 5 : Int32) = nI (i + 5) from nI_add _ 5]
    refine va_sld hx hb hX hbl hbA hS (vp_in_nI (by omega) (by omega)) d_law_1366 ?_
    rw [show (xs (nI (i + 5)).toNatClampNeg : Int32) = xs (i + 5) from by rw [nI_clamp (by omega)]]
    refine lv_i2l (v := (xs (i + 5) : Int32).toInt64) hx hb d_law_1367 rfl ?_
    refine lv_ldc2 (v := 4294967295) hx hb hown (hts _ (List.mem_cons_of_mem _ gk_1202)) d_law_1368 ?_
    refine lv_land hx hb d_law_1371 ?_
    refine lv_lor hx hb d_law_1372 ?_
    rw [show ((((xs (i + 4) : Int32).toInt64 : Int64) <<< ((32 : Int32).toInt64 &&& 63)) ||| (((xs (i + 5) : Int32).toInt64) &&& 4294967295) : Int64) = x3 from hx3.symm]
    refine lv_aload_n hx hb d_law_1373 rfl (lv_at hl 5 rfl) ?_
    refine lv_iload hx hb d_law_1374 (lv_at hl 1 rfl) ?_
    refine lv_bipush (v := 6) hx hb d_law_1376 (by decide) ?_
    refine lv_iadd hx hb d_law_1378 ?_
    rw [show ((nI i) + 6 : Int32) = nI (i + 6) from nI_add _ 6]
    refine va_sld hx hb hX hbl hbA hS (vp_in_nI (by omega) (by omega)) d_law_1379 ?_
    rw [show (xs (nI (i + 6)).toNatClampNeg : Int32) = xs (i + 6) from by rw [nI_clamp (by omega)]]
    refine lv_i2l (v := (xs (i + 6) : Int32).toInt64) hx hb d_law_1380 rfl ?_
    refine lv_bipush (v := 32) hx hb d_law_1381 (by decide) ?_
    refine lv_lshl (v := ((xs (i + 6) : Int32).toInt64 : Int64) <<< ((32 : Int32).toInt64 &&& 63)) hx hb d_law_1383 rfl ?_
    refine lv_aload_n hx hb d_law_1384 rfl (lv_at hl 5 rfl) ?_
    refine lv_iload hx hb d_law_1385 (lv_at hl 1 rfl) ?_
    refine lv_bipush (v := 7) hx hb d_law_1387 (by decide) ?_
    refine lv_iadd hx hb d_law_1389 ?_
    rw [show ((nI i) + 7 : Int32) = nI (i + 7) from nI_add _ 7]
    refine va_sld hx hb hX hbl hbA hS (vp_in_nI (by omega) (by omega)) d_law_1390 ?_
    rw [show (xs (nI (i + 7)).toNatClampNeg : Int32) = xs (i + 7) from by rw [nI_clamp (by omega)]]
    refine lv_i2l (v := (xs (i + 7) : Int32).toInt64) hx hb d_law_1391 rfl ?_
    refine lv_ldc2 (v := 4294967295) hx hb hown (hts _ (List.mem_cons_of_mem _ gk_1202)) d_law_1392 ?_
    refine lv_land hx hb d_law_1395 ?_
    refine lv_lor hx hb d_law_1396 ?_
    rw [show ((((xs (i + 6) : Int32).toInt64 : Int64) <<< ((32 : Int32).toInt64 &&& 63)) ||| (((xs (i + 7) : Int32).toInt64) &&& 4294967295) : Int64) = x4 from hx4.symm]
    have hPc := hP.sub (ws' := (mo_ws m0 e0 (nI (t_tn T)) (nI n) (nI (t_bc T)) (lN P) (lN Q) (lN G) (lN (ckey (t_tn T) (t_kc T) (t_kp T))) (lN (t_pa T)) (lN (t_pb T)) (t_sht T) a0 a1 a2 a3 a4 a5 a6 a7 a8 a9 mb0 mb1 oc mb2 mb3 mb4 mb5 ++ (iw_ws a7 cI 256 bf ++ (iw_ws a8 cI 64 sc ++ (iw_ws a9 cI 8 st ++ (iw_ws mb0 cI 8 kS ++ (iw_ws mb1 cI 64 kR ++ (jw_ws a2 cJ 4 tf ++ (jw_ws a0 cJ 1232 nf ++ (jw_ws a1 cJ 616 cf ++ (iw_ws a5 cI 4 sf ++ (jw_ws mb4 cJ 4 sh ++ (jw_ws mb2 cJ 4 ky ++ jw_ws a3 cJ 16 lf))))))))))))) [26, 27, 28, 29, 30, 31, 32, 33, 34, 38, 41, 36, 37] rfl
    have hDc := hD.sub (ws' := (mo_ws m0 e0 (nI (t_tn T)) (nI n) (nI (t_bc T)) (lN P) (lN Q) (lN G) (lN (ckey (t_tn T) (t_kc T) (t_kp T))) (lN (t_pa T)) (lN (t_pb T)) (t_sht T) a0 a1 a2 a3 a4 a5 a6 a7 a8 a9 mb0 mb1 oc mb2 mb3 mb4 mb5 ++ (iw_ws a7 cI 256 bf ++ (iw_ws a8 cI 64 sc ++ (iw_ws a9 cI 8 st ++ (iw_ws mb0 cI 8 kS ++ (iw_ws mb1 cI 64 kR ++ (jw_ws a2 cJ 4 tf ++ (jw_ws a0 cJ 1232 nf ++ (jw_ws a1 cJ 616 cf ++ (iw_ws a5 cI 4 sf ++ (jw_ws mb4 cJ 4 sh ++ (jw_ws mb2 cJ 4 ky ++ jw_ws a3 cJ 16 lf))))))))))))) [26, 27, 28, 29, 30, 31, 32, 33, 34, 38, 41, 36, 37] (by decide) rfl
    have hKc := hK.sub (tys' := [(cJ, .long), (cI, .int)]) [0, 1] rfl
    have hFc := va_free (wc := (mo_ws m0 e0 (nI (t_tn T)) (nI n) (nI (t_bc T)) (lN P) (lN Q) (lN G) (lN (ckey (t_tn T) (t_kc T) (t_kp T))) (lN (t_pa T)) (lN (t_pb T)) (t_sht T) a0 a1 a2 a3 a4 a5 a6 a7 a8 a9 mb0 mb1 oc mb2 mb3 mb4 mb5 ++ (iw_ws a7 cI 256 bf ++ (iw_ws a8 cI 64 sc ++ (iw_ws a9 cI 8 st ++ (iw_ws mb0 cI 8 kS ++ (iw_ws mb1 cI 64 kR ++ (jw_ws a2 cJ 4 tf ++ (jw_ws a0 cJ 1232 nf ++ (jw_ws a1 cJ 616 cf ++ (iw_ws a5 cI 4 sf ++ (jw_ws mb4 cJ 4 sh ++ (jw_ws mb2 cJ 4 ky ++ jw_ws a3 cJ 16 lf))))))))))))) hD hS hA [26, 27, 28, 29, 30, 31, 32, 33, 34, 38, 41, 36, 37] rfl
    refine va_calli (va_runV (As := [.int x1, .long x2, .long x3, .long x4]) (rest := []) ⟨hx, hb, hml, hown, hts⟩ (c_Bm_share_1 l dC dI cJ cI H.size m0 e0 (t_tn T) n (t_bc T) P Q G (ckey (t_tn T) (t_kc T) (t_kp T)) (t_pa T) (t_pb T) (t_sht T) a0 a1 a2 a3 a4 a5 a6 a7 a8 a9 mb0 mb1 oc mb2 mb3 mb4 mb5 bf sc st sf tf nf cf sh ky lf (t_so T) (t_ko T) x1 x2 x3 x4 htn hgr hsh0 hclN hn hrs hky hpa hC1) (cwV 4 hts (gw_V gk_1149 gk_1150 gk_1151 gk_7 gk_1152) rfl rfl rfl (by decide +kernel) ⟨(Nat.le_of_ble_eq_true rfl), (Nat.le_of_ble_eq_true rfl)⟩) ⟨fun a U g mk q => by obtain ⟨q0, q1, qP, qK, qD⟩ := q; exact ⟨q0, q1, qP, va_K.moved (u := U) (U := U.calling g mk a) (Vm.Alike.refl U.vm) qK, qD⟩, va_recv hK hP (ci := 8) (q0 := 26) rfl rfl, fun U hU hW => ⟨rfl, by rw [hU], by rw [hU]; exact hPc, va_K.moved hW.alike hKc, hDc.weaken (fun _ _ _ _ => trivial)⟩⟩ rfl rfl hl.1 rfl (lv_room (Nat.le_of_ble_eq_true rfl)) d_law_1397 ⟨show cells + 8 + 0 ≤ 601024 by omega, show slots + 48 + 0 ≤ 7293034 by omega⟩) hS (fun q _ h => hFc q h) hFc (fun r_2 v9 t9 H1 locs ht hvm hw hB hz1 hk1 hS => ?_)
    obtain ⟨hP1, hK1, hD1⟩ := hB
    rw [ht] at hP1
    obtain ⟨hP, hD⟩ := va_joinQ (X := (jw_ws out cJ 1 of ++ (bb_ws b0 bd0 pr0 t0 au0 da (.ref g0) ++ (rw_ws da cJ (r8 u9.1.1 u9.1.2.1 u9.1.2.2.1 u9.1.2.2.2.1 u9.1.2.2.2.2.1 u9.1.2.2.2.2.2.1 u9.1.2.2.2.2.2.2.1 u9.1.2.2.2.2.2.2.2) ++ (bd_ws bd0 h0 ro lo n cR (rrf rb) (rrf lb) ++ (pr_ws pr0 h0 cm cJ u9.2.1 ++ (hu_ws h0 aw ax ay cJ cI u9.2.2 ++ (tt_ws t0 ka aa ba sa (.ref g0) cJ T ++ (au_ws au0 bd0 pr0 tu0 sd ++ (tt_ws tu0 uka uaa uba usa gu cJ T0 ++ (gp_ws g0 mF mE P f1 k1 Q f2 k2 G ++ (mo_ws m0 e0 (nI (t_tn T)) (nI n) (nI (t_bc T)) (lN P) (lN Q) (lN G) (lN (ckey (t_tn T) (t_kc T) (t_kp T))) (lN (t_pa T)) (lN (t_pb T)) (t_sht T) a0 a1 a2 a3 a4 a5 a6 a7 a8 a9 mb0 mb1 oc mb2 mb3 mb4 mb5 ++ (iw_ws a7 cI 256 bf ++ (iw_ws a8 cI 64 sc ++ (iw_ws a9 cI 8 st ++ (iw_ws mb0 cI 8 kS ++ (iw_ws mb1 cI 64 kR ++ (jw_ws a2 cJ 4 tf ++ (jw_ws a0 cJ 1232 nf ++ (jw_ws a1 cJ 616 cf ++ (iw_ws a4 cI 4 kf ++ (jw_ws mb2 cJ 4 ky ++ (jw_ws a3 cJ 16 lf ++ (iw_ws a5 cI 4 sf ++ (iw_ws a6 cI 64 vf ++ (jw_ws mb3 cJ 128 md ++ (jw_ws mb4 cJ 4 sh ++ iw_ws mb5 cI 64 ct))))))))))))))))))))))))))) (cx := (mo_ws m0 e0 (nI (t_tn T)) (nI n) (nI (t_bc T)) (lN P) (lN Q) (lN G) (lN (ckey (t_tn T) (t_kc T) (t_kp T))) (lN (t_pa T)) (lN (t_pb T)) (t_sht T) a0 a1 a2 a3 a4 a5 a6 a7 a8 a9 mb0 mb1 oc mb2 mb3 mb4 mb5 ++ (iw_ws a7 cI 256 bf ++ (iw_ws a8 cI 64 sc ++ (iw_ws a9 cI 8 st ++ (iw_ws mb0 cI 8 kS ++ (iw_ws mb1 cI 64 kR ++ (jw_ws a2 cJ 4 tf ++ (jw_ws a0 cJ 1232 nf ++ (jw_ws a1 cJ 616 cf ++ (iw_ws a5 cI 4 sf ++ (jw_ws mb4 cJ 4 sh ++ (jw_ws mb2 cJ 4 ky ++ jw_ws a3 cJ 16 lf))))))))))))) (wr := (jw_ws out cJ 1 of ++ (bb_ws b0 bd0 pr0 t0 au0 da (.ref g0) ++ (rw_ws da cJ (r8 u9.1.1 u9.1.2.1 u9.1.2.2.1 u9.1.2.2.2.1 u9.1.2.2.2.2.1 u9.1.2.2.2.2.2.1 u9.1.2.2.2.2.2.2.1 u9.1.2.2.2.2.2.2.2) ++ (bd_ws bd0 h0 ro lo n cR (rrf rb) (rrf lb) ++ (pr_ws pr0 h0 cm cJ u9.2.1 ++ (hu_ws h0 aw ax ay cJ cI u9.2.2 ++ (tt_ws t0 ka aa ba sa (.ref g0) cJ T ++ (au_ws au0 bd0 pr0 tu0 sd ++ (tt_ws tu0 uka uaa uba usa gu cJ T0 ++ (gp_ws g0 mF mE P f1 k1 Q f2 k2 G ++ (iw_ws a4 cI 4 kf ++ (iw_ws a6 cI 64 vf ++ (jw_ws mb3 cJ 128 md ++ iw_ws mb5 cI 64 ct)))))))))))))) (w1 := (mo_ws m0 1 (nI (t_tn T)) (nI n) (nI (t_bc T)) (lN P) (lN Q) (lN G) (lN (ckey (t_tn T) (t_kc T) (t_kp T))) (lN (t_pa T)) (lN (t_pb T)) (t_sht T) a0 a1 a2 a3 a4 a5 a6 a7 a8 a9 mb0 mb1 oc mb2 mb3 mb4 mb5 ++ (iw_ws a7 cI 256 bf ++ (iw_ws a8 cI 64 sc ++ (iw_ws a9 cI 8 st ++ (iw_ws mb0 cI 8 kS ++ (iw_ws mb1 cI 64 kR ++ (jw_ws a2 cJ 4 tf ++ (jw_ws a0 cJ 1232 nf ++ (jw_ws a1 cJ 616 cf ++ (iw_ws a5 cI 4 sf ++ (jw_ws mb4 cJ 4 sh ++ (jw_ws mb2 cJ 4 ky ++ jw_ws a3 cJ 16 lf))))))))))))) (pl := bpool rb lb cJ R Lk) hP hD [26, 27, 28, 29, 30, 31, 32, 33, 34, 38, 41, 36, 37] [0, 1, 2, 3, 4, 5, 6, 7, 8, 9, 10, 11, 12, 13, 14, 15, 16, 17, 18, 19, 20, 21, 22, 23, 24, 25, 35, 39, 40, 42] rfl rfl (by decide) (by decide) hk1 hFc hP1 hD1
    have hP := hP.part (cx := (jw_ws out cJ 1 of ++ (bb_ws b0 bd0 pr0 t0 au0 da (.ref g0) ++ (rw_ws da cJ (r8 u9.1.1 u9.1.2.1 u9.1.2.2.1 u9.1.2.2.2.1 u9.1.2.2.2.2.1 u9.1.2.2.2.2.2.1 u9.1.2.2.2.2.2.2.1 u9.1.2.2.2.2.2.2.2) ++ (bd_ws bd0 h0 ro lo n cR (rrf rb) (rrf lb) ++ (pr_ws pr0 h0 cm cJ u9.2.1 ++ (hu_ws h0 aw ax ay cJ cI u9.2.2 ++ (tt_ws t0 ka aa ba sa (.ref g0) cJ T ++ (au_ws au0 bd0 pr0 tu0 sd ++ (tt_ws tu0 uka uaa uba usa gu cJ T0 ++ (gp_ws g0 mF mE P f1 k1 Q f2 k2 G ++ (mo_ws m0 1 (nI (t_tn T)) (nI n) (nI (t_bc T)) (lN P) (lN Q) (lN G) (lN (ckey (t_tn T) (t_kc T) (t_kp T))) (lN (t_pa T)) (lN (t_pb T)) (t_sht T) a0 a1 a2 a3 a4 a5 a6 a7 a8 a9 mb0 mb1 oc mb2 mb3 mb4 mb5 ++ (iw_ws a7 cI 256 bf ++ (iw_ws a8 cI 64 sc ++ (iw_ws a9 cI 8 st ++ (iw_ws mb0 cI 8 kS ++ (iw_ws mb1 cI 64 kR ++ (jw_ws a2 cJ 4 tf ++ (jw_ws a0 cJ 1232 nf ++ (jw_ws a1 cJ 616 cf ++ (iw_ws a4 cI 4 kf ++ (jw_ws mb2 cJ 4 ky ++ (jw_ws a3 cJ 16 lf ++ (iw_ws a5 cI 4 sf ++ (iw_ws a6 cI 64 vf ++ (jw_ws mb3 cJ 128 md ++ (jw_ws mb4 cJ 4 sh ++ iw_ws mb5 cI 64 ct))))))))))))))))))))))))))) [0, 1, 2, 3, 4, 5, 6, 7, 8, 9, 10, 11, 12, 13, 14, 15, 16, 17, 18, 19, 20, 21, 22, 23, 24, 25, 30, 31, 32, 33, 34, 35, 36, 37, 38, 26, 41, 42, 39, 27, 28, 40, 29] rfl
    have hD := hD.part (cx := (jw_ws out cJ 1 of ++ (bb_ws b0 bd0 pr0 t0 au0 da (.ref g0) ++ (rw_ws da cJ (r8 u9.1.1 u9.1.2.1 u9.1.2.2.1 u9.1.2.2.2.1 u9.1.2.2.2.2.1 u9.1.2.2.2.2.2.1 u9.1.2.2.2.2.2.2.1 u9.1.2.2.2.2.2.2.2) ++ (bd_ws bd0 h0 ro lo n cR (rrf rb) (rrf lb) ++ (pr_ws pr0 h0 cm cJ u9.2.1 ++ (hu_ws h0 aw ax ay cJ cI u9.2.2 ++ (tt_ws t0 ka aa ba sa (.ref g0) cJ T ++ (au_ws au0 bd0 pr0 tu0 sd ++ (tt_ws tu0 uka uaa uba usa gu cJ T0 ++ (gp_ws g0 mF mE P f1 k1 Q f2 k2 G ++ (mo_ws m0 1 (nI (t_tn T)) (nI n) (nI (t_bc T)) (lN P) (lN Q) (lN G) (lN (ckey (t_tn T) (t_kc T) (t_kp T))) (lN (t_pa T)) (lN (t_pb T)) (t_sht T) a0 a1 a2 a3 a4 a5 a6 a7 a8 a9 mb0 mb1 oc mb2 mb3 mb4 mb5 ++ (iw_ws a7 cI 256 bf ++ (iw_ws a8 cI 64 sc ++ (iw_ws a9 cI 8 st ++ (iw_ws mb0 cI 8 kS ++ (iw_ws mb1 cI 64 kR ++ (jw_ws a2 cJ 4 tf ++ (jw_ws a0 cJ 1232 nf ++ (jw_ws a1 cJ 616 cf ++ (iw_ws a4 cI 4 kf ++ (jw_ws mb2 cJ 4 ky ++ (jw_ws a3 cJ 16 lf ++ (iw_ws a5 cI 4 sf ++ (iw_ws a6 cI 64 vf ++ (jw_ws mb3 cJ 128 md ++ (jw_ws mb4 cJ 4 sh ++ iw_ws mb5 cI 64 ct))))))))))))))))))))))))))) [0, 1, 2, 3, 4, 5, 6, 7, 8, 9, 10, 11, 12, 13, 14, 15, 16, 17, 18, 19, 20, 21, 22, 23, 24, 25, 30, 31, 32, 33, 34, 35, 36, 37, 38, 26, 41, 42, 39, 27, 28, 40, 29] (by decide) rfl
    generalize H1 = H at hP hS ⊢
    clear hPc hDc hFc hP1 hD1 hK1 ht hk1 hz1
    refine lv_istore (lv' := [(6, .int r_2), (5, .int 1), (4, .int (nI i)), (3, .ref out), (2, .ref m0), (1, .ref b0), (0, .ref b)]) hx hb d_law_1400 hl (by decide) rfl (fun ls hl => ?_)
    refine lv_aload_n hx hb d_law_1402 rfl (lv_at hl 4 rfl) ?_
    have hPc := hP.sub (ws' := (mo_ws m0 1 (nI (t_tn T)) (nI n) (nI (t_bc T)) (lN P) (lN Q) (lN G) (lN (ckey (t_tn T) (t_kc T) (t_kp T))) (lN (t_pa T)) (lN (t_pb T)) (t_sht T) a0 a1 a2 a3 a4 a5 a6 a7 a8 a9 mb0 mb1 oc mb2 mb3 mb4 mb5)) [26] rfl
    have hKc := hK.sub (tys' := [(cJ, .long), (cI, .int)]) [0, 1] rfl
    refine va_calli (va_runV (As := []) (rest := []) ⟨hx, hb, hml, hown, hts⟩ (c_Bm_thrown l H dC dI cJ cI m0 1 (nI (t_tn T)) (nI n) (nI (t_bc T)) (lN P) (lN Q) (lN G) (lN (ckey (t_tn T) (t_kc T) (t_kp T))) (lN (t_pa T)) (lN (t_pb T)) (t_sht T) a0 a1 a2 a3 a4 a5 a6 a7 a8 a9 mb0 mb1 oc mb2 mb3 mb4 mb5 hPc) (cwV 0 hts (gw_V gk_1004 gk_1005 gk_1006 gk_7 gk_1007) rfl rfl rfl (by decide +kernel) ⟨(Nat.le_of_ble_eq_true rfl), (Nat.le_of_ble_eq_true rfl)⟩) ⟨fun a U g mk q => ⟨q.1, q.2.1, va_K.moved (u := U) (U := U.calling g mk a) (Vm.Alike.refl U.vm) q.2.2⟩, va_recv hK hP (ci := 8) (q0 := 26) rfl rfl, fun U hU hW => ⟨rfl, hU, va_K.moved hW.alike hKc⟩⟩ rfl rfl hl.1 rfl (lv_room (Nat.le_of_ble_eq_true rfl)) d_law_1403 ⟨show cells + 8 + 0 + 0 ≤ 601024 by omega, show slots + 48 + 0 + 0 ≤ 7293034 by omega⟩) hS (fun q _ h => h.elim) (fun q h => h.elim) (fun r_3 w9 t9 H1 locs ht hvm hw9 hB hz1 hk1 hS => ?_)
    obtain rfl : H = H1 := hB.symm.trans ht
    have hw9 : r_3 = 1 := hw9
    subst hw9
    clear hPc hz1 hk1 hB
    refine lv_iload hx hb d_law_1406 (lv_at hl 1 rfl) ?_
    refine lv_icmp_eq (tgt := 1413) hx hb d_law_1408 (by decide) (fun c_4 => ?_) (fun c_4 => ?_)
    · -- taken
      refine lv_iload hx hb d_law_1413 (lv_at hl 1 rfl) ?_
      refine lv_if_ne (tgt := 1430) hx hb d_law_1415 (by decide) (fun c_5 => ?_) (fun c_5 => ?_)
      · -- taken
        refine lv_goto (tgt := 1965) hx hb d_law_1430 (by decide) ?_
        refine W.widen (k := cells + 20) (n := slots + 200) (by omega) (by omega) ?_
        have hI9 : LI dC dI cJ cI cR A out b0 m0 H := LG.mk hP hD hR
        exact cont _ _ _ hS hI9 (lv_sub hl [2, 3, 4, 5, 6] rfl)
      · -- not taken
        exact absurd c_5 (by decide)
    · -- not taken
      exact absurd c_4 (by decide)
  by_cases hC2 : sC2 P Q G (t_pa T) (t_tn T) (t_ko T) x1 x2 x3 x4
  · -- it holds
    refine lv_aload_n hx hb d_law_1241 rfl (lv_at hl 3 rfl) ?_
    refine lv_aload_n hx hb d_law_1242 rfl (lv_at hl 4 rfl) ?_
    refine lv_iload hx hb d_law_1243 (lv_at hl 0 rfl) ?_
    refine lv_iconst (v := 1) hx hb d_law_1245 (by decide) ?_
    refine lv_iadd hx hb d_law_1246 ?_
    rw [show ((nI i) + 1 : Int32) = nI (i + 1) from nI_add _ 1]
    refine va_sld hx hb hX hbl hbA hS (vp_in_nI (by omega) (by omega)) d_law_1247 ?_
    rw [show (xs (nI (i + 1)).toNatClampNeg : Int32) = xs (i + 1) from by rw [nI_clamp (by omega)]]
    rw [show (xs (i + 1) : Int32) = x1 from hx1.symm]
    refine lv_aload_n hx hb d_law_1248 rfl (lv_at hl 4 rfl) ?_
    refine lv_iload hx hb d_law_1249 (lv_at hl 0 rfl) ?_
    refine lv_iconst (v := 2) hx hb d_law_1251 (by decide) ?_
    refine lv_iadd hx hb d_law_1252 ?_
    rw [show ((nI i) + 2 : Int32) = nI (i + 2) from nI_add _ 2]
    refine va_sld hx hb hX hbl hbA hS (vp_in_nI (by omega) (by omega)) d_law_1253 ?_
    rw [show (xs (nI (i + 2)).toNatClampNeg : Int32) = xs (i + 2) from by rw [nI_clamp (by omega)]]
    refine lv_i2l (v := (xs (i + 2) : Int32).toInt64) hx hb d_law_1254 rfl ?_
    refine lv_bipush (v := 32) hx hb d_law_1255 (by decide) ?_
    refine lv_lshl (v := ((xs (i + 2) : Int32).toInt64 : Int64) <<< ((32 : Int32).toInt64 &&& 63)) hx hb d_law_1257 rfl ?_
    refine lv_aload_n hx hb d_law_1258 rfl (lv_at hl 4 rfl) ?_
    refine lv_iload hx hb d_law_1259 (lv_at hl 0 rfl) ?_
    refine lv_iconst (v := 3) hx hb d_law_1261 (by decide) ?_
    refine lv_iadd hx hb d_law_1262 ?_
    rw [show ((nI i) + 3 : Int32) = nI (i + 3) from nI_add _ 3]
    refine va_sld hx hb hX hbl hbA hS (vp_in_nI (by omega) (by omega)) d_law_1263 ?_
    rw [show (xs (nI (i + 3)).toNatClampNeg : Int32) = xs (i + 3) from by rw [nI_clamp (by omega)]]
    refine lv_i2l (v := (xs (i + 3) : Int32).toInt64) hx hb d_law_1264 rfl ?_
    refine lv_ldc2 (v := 4294967295) hx hb hown (hts _ (List.mem_cons_of_mem _ gk_1202)) d_law_1265 ?_
    refine lv_land hx hb d_law_1268 ?_
    refine lv_lor hx hb d_law_1269 ?_
    rw [show ((((xs (i + 2) : Int32).toInt64 : Int64) <<< ((32 : Int32).toInt64 &&& 63)) ||| (((xs (i + 3) : Int32).toInt64) &&& 4294967295) : Int64) = x2 from hx2.symm]
    refine lv_aload_n hx hb d_law_1270 rfl (lv_at hl 4 rfl) ?_
    refine lv_iload hx hb d_law_1271 (lv_at hl 0 rfl) ?_
    refine lv_iconst (v := 4) hx hb d_law_1273 (by decide) ?_
    refine lv_iadd hx hb d_law_1274 ?_
    rw [show ((nI i) + 4 : Int32) = nI (i + 4) from nI_add _ 4]
    refine va_sld hx hb hX hbl hbA hS (vp_in_nI (by omega) (by omega)) d_law_1275 ?_
    rw [show (xs (nI (i + 4)).toNatClampNeg : Int32) = xs (i + 4) from by rw [nI_clamp (by omega)]]
    refine lv_i2l (v := (xs (i + 4) : Int32).toInt64) hx hb d_law_1276 rfl ?_
    refine lv_bipush (v := 32) hx hb d_law_1277 (by decide) ?_
    refine lv_lshl (v := ((xs (i + 4) : Int32).toInt64 : Int64) <<< ((32 : Int32).toInt64 &&& 63)) hx hb d_law_1279 rfl ?_
    refine lv_aload_n hx hb d_law_1280 rfl (lv_at hl 4 rfl) ?_
    refine lv_iload hx hb d_law_1281 (lv_at hl 0 rfl) ?_
    refine lv_iconst (v := 5) hx hb d_law_1283 (by decide) ?_
    refine lv_iadd hx hb d_law_1284 ?_
    rw [show ((nI i) + 5 : Int32) = nI (i + 5) from nI_add _ 5]
    refine va_sld hx hb hX hbl hbA hS (vp_in_nI (by omega) (by omega)) d_law_1285 ?_
    rw [show (xs (nI (i + 5)).toNatClampNeg : Int32) = xs (i + 5) from by rw [nI_clamp (by omega)]]
    refine lv_i2l (v := (xs (i + 5) : Int32).toInt64) hx hb d_law_1286 rfl ?_
    refine lv_ldc2 (v := 4294967295) hx hb hown (hts _ (List.mem_cons_of_mem _ gk_1202)) d_law_1287 ?_
    refine lv_land hx hb d_law_1290 ?_
    refine lv_lor hx hb d_law_1291 ?_
    rw [show ((((xs (i + 4) : Int32).toInt64 : Int64) <<< ((32 : Int32).toInt64 &&& 63)) ||| (((xs (i + 5) : Int32).toInt64) &&& 4294967295) : Int64) = x3 from hx3.symm]
    refine lv_aload_n hx hb d_law_1292 rfl (lv_at hl 4 rfl) ?_
    refine lv_iload hx hb d_law_1293 (lv_at hl 0 rfl) ?_
    refine lv_bipush (v := 6) hx hb d_law_1295 (by decide) ?_
    refine lv_iadd hx hb d_law_1297 ?_
    rw [show ((nI i) + 6 : Int32) = nI (i + 6) from nI_add _ 6]
    refine va_sld hx hb hX hbl hbA hS (vp_in_nI (by omega) (by omega)) d_law_1298 ?_
    rw [show (xs (nI (i + 6)).toNatClampNeg : Int32) = xs (i + 6) from by rw [nI_clamp (by omega)]]
    refine lv_i2l (v := (xs (i + 6) : Int32).toInt64) hx hb d_law_1299 rfl ?_
    refine lv_bipush (v := 32) hx hb d_law_1300 (by decide) ?_
    refine lv_lshl (v := ((xs (i + 6) : Int32).toInt64 : Int64) <<< ((32 : Int32).toInt64 &&& 63)) hx hb d_law_1302 rfl ?_
    refine lv_aload_n hx hb d_law_1303 rfl (lv_at hl 4 rfl) ?_
    refine lv_iload hx hb d_law_1304 (lv_at hl 0 rfl) ?_
    refine lv_bipush (v := 7) hx hb d_law_1306 (by decide) ?_
    refine lv_iadd hx hb d_law_1308 ?_
    rw [show ((nI i) + 7 : Int32) = nI (i + 7) from nI_add _ 7]
    refine va_sld hx hb hX hbl hbA hS (vp_in_nI (by omega) (by omega)) d_law_1309 ?_
    rw [show (xs (nI (i + 7)).toNatClampNeg : Int32) = xs (i + 7) from by rw [nI_clamp (by omega)]]
    refine lv_i2l (v := (xs (i + 7) : Int32).toInt64) hx hb d_law_1310 rfl ?_
    refine lv_ldc2 (v := 4294967295) hx hb hown (hts _ (List.mem_cons_of_mem _ gk_1202)) d_law_1311 ?_
    refine lv_land hx hb d_law_1314 ?_
    refine lv_lor hx hb d_law_1315 ?_
    rw [show ((((xs (i + 6) : Int32).toInt64 : Int64) <<< ((32 : Int32).toInt64 &&& 63)) ||| (((xs (i + 7) : Int32).toInt64) &&& 4294967295) : Int64) = x4 from hx4.symm]
    refine lv_aload_n hx hb d_law_1316 rfl (lv_at hl 1 rfl) ?_
    have hPc := hP.part (cx := (jw_ws out cJ 1 of ++ (bb_ws b0 bd0 pr0 t0 au0 da (.ref g0) ++ (rw_ws da cJ (r8 d0 d1 d2 d3 d4 d5 d6 d7) ++ (bd_ws bd0 h0 ro lo n cR (rrf rb) (rrf lb) ++ (pr_ws pr0 h0 cm cJ ccf ++ (ha_ws h0 aw ax ay cJ cI w csc cst cL ++ (tt_ws t0 ka aa ba sa (.ref g0) cJ T ++ gp_ws g0 mF mE P f1 k1 Q f2 k2 G)))))))) [0, 1, 2, 3, 4, 5, 6, 7, 8, 9, 10, 11, 12, 13, 14, 15, 16, 23, 24, 25] rfl
    have hDc := hD.part (cx := (jw_ws out cJ 1 of ++ (bb_ws b0 bd0 pr0 t0 au0 da (.ref g0) ++ (rw_ws da cJ (r8 d0 d1 d2 d3 d4 d5 d6 d7) ++ (bd_ws bd0 h0 ro lo n cR (rrf rb) (rrf lb) ++ (pr_ws pr0 h0 cm cJ ccf ++ (ha_ws h0 aw ax ay cJ cI w csc cst cL ++ (tt_ws t0 ka aa ba sa (.ref g0) cJ T ++ gp_ws g0 mF mE P f1 k1 Q f2 k2 G)))))))) [0, 1, 2, 3, 4, 5, 6, 7, 8, 9, 10, 11, 12, 13, 14, 15, 16, 23, 24, 25] (by decide) rfl
    have hKc := hK.sub (tys' := [(cJ, .long), (cI, .int), (cR, .array .long)]) [0, 1, 2] rfl
    have hFc := va_freeP (cx := (jw_ws out cJ 1 of ++ (bb_ws b0 bd0 pr0 t0 au0 da (.ref g0) ++ (rw_ws da cJ (r8 d0 d1 d2 d3 d4 d5 d6 d7) ++ (bd_ws bd0 h0 ro lo n cR (rrf rb) (rrf lb) ++ (pr_ws pr0 h0 cm cJ ccf ++ (ha_ws h0 aw ax ay cJ cI w csc cst cL ++ (tt_ws t0 ka aa ba sa (.ref g0) cJ T ++ gp_ws g0 mF mE P f1 k1 Q f2 k2 G)))))))) hD hS hA [0, 1, 2, 3, 4, 5, 6, 7, 8, 9, 10, 11, 12, 13, 14, 15, 16, 23, 24, 25] rfl
    have hZc0 : ha_Z rA sA (va_A ((jw_ws out cJ 1 of ++ (bb_ws b0 bd0 pr0 t0 au0 da (.ref g0) ++ (rw_ws da cJ (r8 d0 d1 d2 d3 d4 d5 d6 d7) ++ (bd_ws bd0 h0 ro lo n cR (rrf rb) (rrf lb) ++ (pr_ws pr0 h0 cm cJ ccf ++ (ha_ws h0 aw ax ay cJ cI w csc cst cL ++ (tt_ws t0 ka aa ba sa (.ref g0) cJ T ++ gp_ws g0 mF mE P f1 k1 Q f2 k2 G))))))) ++ bpool rb lb cJ R Lk) H.size) s H := (hZha.kept hS.2.1).narrow hFc
    have hZc1 : xz (va_A ((jw_ws out cJ 1 of ++ (bb_ws b0 bd0 pr0 t0 au0 da (.ref g0) ++ (rw_ws da cJ (r8 d0 d1 d2 d3 d4 d5 d6 d7) ++ (bd_ws bd0 h0 ro lo n cR (rrf rb) (rrf lb) ++ (pr_ws pr0 h0 cm cJ ccf ++ (ha_ws h0 aw ax ay cJ cI w csc cst cL ++ (tt_ws t0 ka aa ba sa (.ref g0) cJ T ++ gp_ws g0 mF mE P f1 k1 Q f2 k2 G))))))) ++ bpool rb lb cJ R Lk) H.size) s H := (hZx.kept hS.2.1).narrow hFc
    have hZc2 : nc_Z s := hZn
    refine vx_calli (vx_runSX (hh := h_Lw_share) (As := [.ref b0, .int x1, .long x2, .long x3, .long x4, .ref out]) (rest := []) ⟨hx, hb, hml, hown, hts⟩ (c_Lw_share_2 l hnt dC dI cJ cI cR H.size b0 bd0 pr0 t0 au0 da h0 ro lo n rb lb cm ccf aw ax ay w csc cst cL ka aa ba sa T g0 mF mE P f1 k1 Q f2 k2 G rA sA R Lk d0 d1 d2 d3 d4 d5 d6 d7 x1 x2 x3 x4 out of hok htok hN0 htn hkc hn hnS hn0S hC1 hC2) (vx_cwSW 6 hts (gw_Sv gk_702 gk_703 gk_0 gk_704) rfl rfl rfl (by decide +kernel) ⟨(Nat.le_of_ble_eq_true rfl), (Nat.le_of_ble_eq_true rfl)⟩) ⟨fun a U g mk q => by obtain ⟨q0, q1, qP, qK, qD, qZ0, qZ1, qZ2⟩ := q; exact ⟨q0, q1, qP, va_K.moved (u := U) (U := U.calling g mk a) (Vm.Alike.refl U.vm) qK, qD, ha_Z.moved (u := U) (U := U.calling g mk a) (Vm.Alike.refl U.vm) qZ0, xz.same (u := U) (U := U.calling g mk a) rfl qZ1, nc_Z.moved (u := U) (U := U.calling g mk a) (Vm.Alike.refl U.vm) qZ2⟩, fun U hU hW => ⟨rfl, by rw [hU], by rw [hU]; exact hPc, va_K.moved hW.alike hKc, hDc.weaken (fun _ _ _ _ => trivial), by rw [hU]; exact ha_Z.moved hW.alike hZc0, by rw [hU]; exact xz.warm hW hZc1, nc_Z.moved hW.alike hZc2⟩⟩ rfl rfl hl.1 rfl (lv_room (Nat.le_of_ble_eq_true rfl)) d_law_1317 ⟨show cells + 8 ≤ 601024 by omega, show slots + 48 ≤ 7293034 by omega⟩) hS (fun q _ h => hFc q h) hFc (fun q _ h => hFc q h) (fun E9 ce9 q9 u8 t9 H1 locs ht hvm hpx hbx hz1 hk1 hS hce hcv hcl => hpx.elim) (fun r_6 u9 t9 H1 locs ht hvm hw hB hz1 hk1 hS => ?_)
    obtain ⟨hP1, hK1, hD1⟩ := hB
    rw [ht] at hP1
    obtain ⟨hP, hD⟩ := va_joinP (X := (jw_ws out cJ 1 of ++ (bb_ws b0 bd0 pr0 t0 au0 da (.ref g0) ++ (rw_ws da cJ (r8 d0 d1 d2 d3 d4 d5 d6 d7) ++ (bd_ws bd0 h0 ro lo n cR (rrf rb) (rrf lb) ++ (pr_ws pr0 h0 cm cJ ccf ++ (ha_ws h0 aw ax ay cJ cI w csc cst cL ++ (tt_ws t0 ka aa ba sa (.ref g0) cJ T ++ (au_ws au0 bd0 pr0 tu0 sd ++ (tt_ws tu0 uka uaa uba usa gu cJ T0 ++ (gp_ws g0 mF mE P f1 k1 Q f2 k2 G ++ (mo_ws m0 e0 (nI (t_tn T)) (nI n) (nI (t_bc T)) (lN P) (lN Q) (lN G) (lN (ckey (t_tn T) (t_kc T) (t_kp T))) (lN (t_pa T)) (lN (t_pb T)) (t_sht T) a0 a1 a2 a3 a4 a5 a6 a7 a8 a9 mb0 mb1 oc mb2 mb3 mb4 mb5 ++ (iw_ws a7 cI 256 bf ++ (iw_ws a8 cI 64 sc ++ (iw_ws a9 cI 8 st ++ (iw_ws mb0 cI 8 kS ++ (iw_ws mb1 cI 64 kR ++ (jw_ws a2 cJ 4 tf ++ (jw_ws a0 cJ 1232 nf ++ (jw_ws a1 cJ 616 cf ++ (iw_ws a4 cI 4 kf ++ (jw_ws mb2 cJ 4 ky ++ (jw_ws a3 cJ 16 lf ++ (iw_ws a5 cI 4 sf ++ (iw_ws a6 cI 64 vf ++ (jw_ws mb3 cJ 128 md ++ (jw_ws mb4 cJ 4 sh ++ iw_ws mb5 cI 64 ct))))))))))))))))))))))))))) (cx := (jw_ws out cJ 1 of ++ (bb_ws b0 bd0 pr0 t0 au0 da (.ref g0) ++ (rw_ws da cJ (r8 d0 d1 d2 d3 d4 d5 d6 d7) ++ (bd_ws bd0 h0 ro lo n cR (rrf rb) (rrf lb) ++ (pr_ws pr0 h0 cm cJ ccf ++ (ha_ws h0 aw ax ay cJ cI w csc cst cL ++ (tt_ws t0 ka aa ba sa (.ref g0) cJ T ++ gp_ws g0 mF mE P f1 k1 Q f2 k2 G)))))))) (wr := (au_ws au0 bd0 pr0 tu0 sd ++ (tt_ws tu0 uka uaa uba usa gu cJ T0 ++ (mo_ws m0 e0 (nI (t_tn T)) (nI n) (nI (t_bc T)) (lN P) (lN Q) (lN G) (lN (ckey (t_tn T) (t_kc T) (t_kp T))) (lN (t_pa T)) (lN (t_pb T)) (t_sht T) a0 a1 a2 a3 a4 a5 a6 a7 a8 a9 mb0 mb1 oc mb2 mb3 mb4 mb5 ++ (iw_ws a7 cI 256 bf ++ (iw_ws a8 cI 64 sc ++ (iw_ws a9 cI 8 st ++ (iw_ws mb0 cI 8 kS ++ (iw_ws mb1 cI 64 kR ++ (jw_ws a2 cJ 4 tf ++ (jw_ws a0 cJ 1232 nf ++ (jw_ws a1 cJ 616 cf ++ (iw_ws a4 cI 4 kf ++ (jw_ws mb2 cJ 4 ky ++ (jw_ws a3 cJ 16 lf ++ (iw_ws a5 cI 4 sf ++ (iw_ws a6 cI 64 vf ++ (jw_ws mb3 cJ 128 md ++ (jw_ws mb4 cJ 4 sh ++ iw_ws mb5 cI 64 ct))))))))))))))))))) (rx := (jw_ws out cJ 1 of ++ (bb_ws b0 bd0 pr0 t0 au0 da (.ref g0) ++ (rw_ws da cJ (r8 u9.1.1 u9.1.2.1 u9.1.2.2.1 u9.1.2.2.2.1 u9.1.2.2.2.2.1 u9.1.2.2.2.2.2.1 u9.1.2.2.2.2.2.2.1 u9.1.2.2.2.2.2.2.2) ++ (bd_ws bd0 h0 ro lo n cR (rrf rb) (rrf lb) ++ (pr_ws pr0 h0 cm cJ u9.2.1 ++ (hu_ws h0 aw ax ay cJ cI u9.2.2 ++ (tt_ws t0 ka aa ba sa (.ref g0) cJ T ++ gp_ws g0 mF mE P f1 k1 Q f2 k2 G)))))))) (pl := bpool rb lb cJ R Lk) (pl1 := bpool rb lb cJ R Lk) hP hD [0, 1, 2, 3, 4, 5, 6, 7, 8, 9, 10, 11, 12, 13, 14, 15, 16, 23, 24, 25] [17, 18, 19, 20, 21, 22, 26, 27, 28, 29, 30, 31, 32, 33, 34, 35, 36, 37, 38, 39, 40, 41, 42] rfl rfl (by decide) (by decide) hk1 hFc hP1 hD1
    have hP := hP.part (cx := (jw_ws out cJ 1 of ++ (bb_ws b0 bd0 pr0 t0 au0 da (.ref g0) ++ (rw_ws da cJ (r8 u9.1.1 u9.1.2.1 u9.1.2.2.1 u9.1.2.2.2.1 u9.1.2.2.2.2.1 u9.1.2.2.2.2.2.1 u9.1.2.2.2.2.2.2.1 u9.1.2.2.2.2.2.2.2) ++ (bd_ws bd0 h0 ro lo n cR (rrf rb) (rrf lb) ++ (pr_ws pr0 h0 cm cJ u9.2.1 ++ (hu_ws h0 aw ax ay cJ cI u9.2.2 ++ (tt_ws t0 ka aa ba sa (.ref g0) cJ T ++ (au_ws au0 bd0 pr0 tu0 sd ++ (tt_ws tu0 uka uaa uba usa gu cJ T0 ++ (gp_ws g0 mF mE P f1 k1 Q f2 k2 G ++ (mo_ws m0 e0 (nI (t_tn T)) (nI n) (nI (t_bc T)) (lN P) (lN Q) (lN G) (lN (ckey (t_tn T) (t_kc T) (t_kp T))) (lN (t_pa T)) (lN (t_pb T)) (t_sht T) a0 a1 a2 a3 a4 a5 a6 a7 a8 a9 mb0 mb1 oc mb2 mb3 mb4 mb5 ++ (iw_ws a7 cI 256 bf ++ (iw_ws a8 cI 64 sc ++ (iw_ws a9 cI 8 st ++ (iw_ws mb0 cI 8 kS ++ (iw_ws mb1 cI 64 kR ++ (jw_ws a2 cJ 4 tf ++ (jw_ws a0 cJ 1232 nf ++ (jw_ws a1 cJ 616 cf ++ (iw_ws a4 cI 4 kf ++ (jw_ws mb2 cJ 4 ky ++ (jw_ws a3 cJ 16 lf ++ (iw_ws a5 cI 4 sf ++ (iw_ws a6 cI 64 vf ++ (jw_ws mb3 cJ 128 md ++ (jw_ws mb4 cJ 4 sh ++ iw_ws mb5 cI 64 ct))))))))))))))))))))))))))) [23, 24, 25, 26, 27, 28, 29, 30, 31, 32, 33, 34, 35, 36, 37, 38, 39, 0, 1, 2, 3, 4, 5, 40, 41, 42, 6, 7, 8, 9, 10, 11, 12, 13, 14, 15, 16, 17, 18, 19, 20, 21, 22] rfl
    have hD := hD.part (cx := (jw_ws out cJ 1 of ++ (bb_ws b0 bd0 pr0 t0 au0 da (.ref g0) ++ (rw_ws da cJ (r8 u9.1.1 u9.1.2.1 u9.1.2.2.1 u9.1.2.2.2.1 u9.1.2.2.2.2.1 u9.1.2.2.2.2.2.1 u9.1.2.2.2.2.2.2.1 u9.1.2.2.2.2.2.2.2) ++ (bd_ws bd0 h0 ro lo n cR (rrf rb) (rrf lb) ++ (pr_ws pr0 h0 cm cJ u9.2.1 ++ (hu_ws h0 aw ax ay cJ cI u9.2.2 ++ (tt_ws t0 ka aa ba sa (.ref g0) cJ T ++ (au_ws au0 bd0 pr0 tu0 sd ++ (tt_ws tu0 uka uaa uba usa gu cJ T0 ++ (gp_ws g0 mF mE P f1 k1 Q f2 k2 G ++ (mo_ws m0 e0 (nI (t_tn T)) (nI n) (nI (t_bc T)) (lN P) (lN Q) (lN G) (lN (ckey (t_tn T) (t_kc T) (t_kp T))) (lN (t_pa T)) (lN (t_pb T)) (t_sht T) a0 a1 a2 a3 a4 a5 a6 a7 a8 a9 mb0 mb1 oc mb2 mb3 mb4 mb5 ++ (iw_ws a7 cI 256 bf ++ (iw_ws a8 cI 64 sc ++ (iw_ws a9 cI 8 st ++ (iw_ws mb0 cI 8 kS ++ (iw_ws mb1 cI 64 kR ++ (jw_ws a2 cJ 4 tf ++ (jw_ws a0 cJ 1232 nf ++ (jw_ws a1 cJ 616 cf ++ (iw_ws a4 cI 4 kf ++ (jw_ws mb2 cJ 4 ky ++ (jw_ws a3 cJ 16 lf ++ (iw_ws a5 cI 4 sf ++ (iw_ws a6 cI 64 vf ++ (jw_ws mb3 cJ 128 md ++ (jw_ws mb4 cJ 4 sh ++ iw_ws mb5 cI 64 ct))))))))))))))))))))))))))) [23, 24, 25, 26, 27, 28, 29, 30, 31, 32, 33, 34, 35, 36, 37, 38, 39, 0, 1, 2, 3, 4, 5, 40, 41, 42, 6, 7, 8, 9, 10, 11, 12, 13, 14, 15, 16, 17, 18, 19, 20, 21, 22] (by decide) rfl
    generalize H1 = H at hP hS ⊢
    clear hPc hDc hFc hP1 hD1 hK1 ht hk1 hz1
    have hr9 : r_6 = 2 := hw
    subst hr9
    refine lv_istore (lv' := [(5, .int 2), (4, .int (nI i)), (3, .ref out), (2, .ref m0), (1, .ref b0), (0, .ref b)]) hx hb d_law_1320 hl (by decide) rfl (fun ls hl => ?_)
    refine lv_aload_n hx hb d_law_1322 rfl (lv_at hl 3 rfl) ?_
    refine lv_aload_n hx hb d_law_1323 rfl (lv_at hl 5 rfl) ?_
    refine lv_iload hx hb d_law_1324 (lv_at hl 1 rfl) ?_
    refine lv_iconst (v := 1) hx hb d_law_1326 (by decide) ?_
    refine lv_iadd hx hb d_law_1327 ?_
    rw [show ((nI i) + 1 : Int32) = nI (i + 1) from nI_add _ 1]
    refine va_sld hx hb hX hbl hbA hS (vp_in_nI (by omega) (by omega)) d_law_1328 ?_
    rw [show (xs (nI (i + 1)).toNatClampNeg : Int32) = xs (i + 1) from by rw [nI_clamp (by omega)]]
    rw [show (xs (i + 1) : Int32) = x1 from hx1.symm]
    refine lv_aload_n hx hb d_law_1329 rfl (lv_at hl 5 rfl) ?_
    refine lv_iload hx hb d_law_1330 (lv_at hl 1 rfl) ?_
    refine lv_iconst (v := 2) hx hb d_law_1332 (by decide) ?_
    refine lv_iadd hx hb d_law_1333 ?_
    rw [show ((nI i) + 2 : Int32) = nI (i + 2) from nI_add _ 2]
    refine va_sld hx hb hX hbl hbA hS (vp_in_nI (by omega) (by omega)) d_law_1334 ?_
    rw [show (xs (nI (i + 2)).toNatClampNeg : Int32) = xs (i + 2) from by rw [nI_clamp (by omega)]]
    refine lv_i2l (v := (xs (i + 2) : Int32).toInt64) hx hb d_law_1335 rfl ?_
    refine lv_bipush (v := 32) hx hb d_law_1336 (by decide) ?_
    refine lv_lshl (v := ((xs (i + 2) : Int32).toInt64 : Int64) <<< ((32 : Int32).toInt64 &&& 63)) hx hb d_law_1338 rfl ?_
    refine lv_aload_n hx hb d_law_1339 rfl (lv_at hl 5 rfl) ?_
    refine lv_iload hx hb d_law_1340 (lv_at hl 1 rfl) ?_
    refine lv_iconst (v := 3) hx hb d_law_1342 (by decide) ?_
    refine lv_iadd hx hb d_law_1343 ?_
    rw [show ((nI i) + 3 : Int32) = nI (i + 3) from nI_add _ 3]
    refine va_sld hx hb hX hbl hbA hS (vp_in_nI (by omega) (by omega)) d_law_1344 ?_
    rw [show (xs (nI (i + 3)).toNatClampNeg : Int32) = xs (i + 3) from by rw [nI_clamp (by omega)]]
    refine lv_i2l (v := (xs (i + 3) : Int32).toInt64) hx hb d_law_1345 rfl ?_
    refine lv_ldc2 (v := 4294967295) hx hb hown (hts _ (List.mem_cons_of_mem _ gk_1202)) d_law_1346 ?_
    refine lv_land hx hb d_law_1349 ?_
    refine lv_lor hx hb d_law_1350 ?_
    rw [show ((((xs (i + 2) : Int32).toInt64 : Int64) <<< ((32 : Int32).toInt64 &&& 63)) ||| (((xs (i + 3) : Int32).toInt64) &&& 4294967295) : Int64) = x2 from hx2.symm]
    refine lv_aload_n hx hb d_law_1351 rfl (lv_at hl 5 rfl) ?_
    refine lv_iload hx hb d_law_1352 (lv_at hl 1 rfl) ?_
    refine lv_iconst (v := 4) hx hb d_law_1354 (by decide) ?_
    refine lv_iadd hx hb d_law_1355 ?_
    rw [show ((nI i) + 4 : Int32) = nI (i + 4) from nI_add _ 4]
    refine va_sld hx hb hX hbl hbA hS (vp_in_nI (by omega) (by omega)) d_law_1356 ?_
    rw [show (xs (nI (i + 4)).toNatClampNeg : Int32) = xs (i + 4) from by rw [nI_clamp (by omega)]]
    refine lv_i2l (v := (xs (i + 4) : Int32).toInt64) hx hb d_law_1357 rfl ?_
    refine lv_bipush (v := 32) hx hb d_law_1358 (by decide) ?_
    refine lv_lshl (v := ((xs (i + 4) : Int32).toInt64 : Int64) <<< ((32 : Int32).toInt64 &&& 63)) hx hb d_law_1360 rfl ?_
    refine lv_aload_n hx hb d_law_1361 rfl (lv_at hl 5 rfl) ?_
    refine lv_iload hx hb d_law_1362 (lv_at hl 1 rfl) ?_
    refine lv_iconst (v := 5) hx hb d_law_1364 (by decide) ?_
    refine lv_iadd hx hb d_law_1365 ?_
    rw [show ((nI i) + 5 : Int32) = nI (i + 5) from nI_add _ 5]
    refine va_sld hx hb hX hbl hbA hS (vp_in_nI (by omega) (by omega)) d_law_1366 ?_
    rw [show (xs (nI (i + 5)).toNatClampNeg : Int32) = xs (i + 5) from by rw [nI_clamp (by omega)]]
    refine lv_i2l (v := (xs (i + 5) : Int32).toInt64) hx hb d_law_1367 rfl ?_
    refine lv_ldc2 (v := 4294967295) hx hb hown (hts _ (List.mem_cons_of_mem _ gk_1202)) d_law_1368 ?_
    refine lv_land hx hb d_law_1371 ?_
    refine lv_lor hx hb d_law_1372 ?_
    rw [show ((((xs (i + 4) : Int32).toInt64 : Int64) <<< ((32 : Int32).toInt64 &&& 63)) ||| (((xs (i + 5) : Int32).toInt64) &&& 4294967295) : Int64) = x3 from hx3.symm]
    refine lv_aload_n hx hb d_law_1373 rfl (lv_at hl 5 rfl) ?_
    refine lv_iload hx hb d_law_1374 (lv_at hl 1 rfl) ?_
    refine lv_bipush (v := 6) hx hb d_law_1376 (by decide) ?_
    refine lv_iadd hx hb d_law_1378 ?_
    rw [show ((nI i) + 6 : Int32) = nI (i + 6) from nI_add _ 6]
    refine va_sld hx hb hX hbl hbA hS (vp_in_nI (by omega) (by omega)) d_law_1379 ?_
    rw [show (xs (nI (i + 6)).toNatClampNeg : Int32) = xs (i + 6) from by rw [nI_clamp (by omega)]]
    refine lv_i2l (v := (xs (i + 6) : Int32).toInt64) hx hb d_law_1380 rfl ?_
    refine lv_bipush (v := 32) hx hb d_law_1381 (by decide) ?_
    refine lv_lshl (v := ((xs (i + 6) : Int32).toInt64 : Int64) <<< ((32 : Int32).toInt64 &&& 63)) hx hb d_law_1383 rfl ?_
    refine lv_aload_n hx hb d_law_1384 rfl (lv_at hl 5 rfl) ?_
    refine lv_iload hx hb d_law_1385 (lv_at hl 1 rfl) ?_
    refine lv_bipush (v := 7) hx hb d_law_1387 (by decide) ?_
    refine lv_iadd hx hb d_law_1389 ?_
    rw [show ((nI i) + 7 : Int32) = nI (i + 7) from nI_add _ 7]
    refine va_sld hx hb hX hbl hbA hS (vp_in_nI (by omega) (by omega)) d_law_1390 ?_
    rw [show (xs (nI (i + 7)).toNatClampNeg : Int32) = xs (i + 7) from by rw [nI_clamp (by omega)]]
    refine lv_i2l (v := (xs (i + 7) : Int32).toInt64) hx hb d_law_1391 rfl ?_
    refine lv_ldc2 (v := 4294967295) hx hb hown (hts _ (List.mem_cons_of_mem _ gk_1202)) d_law_1392 ?_
    refine lv_land hx hb d_law_1395 ?_
    refine lv_lor hx hb d_law_1396 ?_
    rw [show ((((xs (i + 6) : Int32).toInt64 : Int64) <<< ((32 : Int32).toInt64 &&& 63)) ||| (((xs (i + 7) : Int32).toInt64) &&& 4294967295) : Int64) = x4 from hx4.symm]
    have hPc := hP.sub (ws' := (mo_ws m0 e0 (nI (t_tn T)) (nI n) (nI (t_bc T)) (lN P) (lN Q) (lN G) (lN (ckey (t_tn T) (t_kc T) (t_kp T))) (lN (t_pa T)) (lN (t_pb T)) (t_sht T) a0 a1 a2 a3 a4 a5 a6 a7 a8 a9 mb0 mb1 oc mb2 mb3 mb4 mb5 ++ (iw_ws a7 cI 256 bf ++ (iw_ws a8 cI 64 sc ++ (iw_ws a9 cI 8 st ++ (iw_ws mb0 cI 8 kS ++ (iw_ws mb1 cI 64 kR ++ (jw_ws a2 cJ 4 tf ++ (jw_ws a0 cJ 1232 nf ++ (jw_ws a1 cJ 616 cf ++ (iw_ws a5 cI 4 sf ++ (jw_ws mb4 cJ 4 sh ++ (jw_ws mb2 cJ 4 ky ++ jw_ws a3 cJ 16 lf))))))))))))) [26, 27, 28, 29, 30, 31, 32, 33, 34, 38, 41, 36, 37] rfl
    have hDc := hD.sub (ws' := (mo_ws m0 e0 (nI (t_tn T)) (nI n) (nI (t_bc T)) (lN P) (lN Q) (lN G) (lN (ckey (t_tn T) (t_kc T) (t_kp T))) (lN (t_pa T)) (lN (t_pb T)) (t_sht T) a0 a1 a2 a3 a4 a5 a6 a7 a8 a9 mb0 mb1 oc mb2 mb3 mb4 mb5 ++ (iw_ws a7 cI 256 bf ++ (iw_ws a8 cI 64 sc ++ (iw_ws a9 cI 8 st ++ (iw_ws mb0 cI 8 kS ++ (iw_ws mb1 cI 64 kR ++ (jw_ws a2 cJ 4 tf ++ (jw_ws a0 cJ 1232 nf ++ (jw_ws a1 cJ 616 cf ++ (iw_ws a5 cI 4 sf ++ (jw_ws mb4 cJ 4 sh ++ (jw_ws mb2 cJ 4 ky ++ jw_ws a3 cJ 16 lf))))))))))))) [26, 27, 28, 29, 30, 31, 32, 33, 34, 38, 41, 36, 37] (by decide) rfl
    have hKc := hK.sub (tys' := [(cJ, .long), (cI, .int)]) [0, 1] rfl
    have hFc := va_free (wc := (mo_ws m0 e0 (nI (t_tn T)) (nI n) (nI (t_bc T)) (lN P) (lN Q) (lN G) (lN (ckey (t_tn T) (t_kc T) (t_kp T))) (lN (t_pa T)) (lN (t_pb T)) (t_sht T) a0 a1 a2 a3 a4 a5 a6 a7 a8 a9 mb0 mb1 oc mb2 mb3 mb4 mb5 ++ (iw_ws a7 cI 256 bf ++ (iw_ws a8 cI 64 sc ++ (iw_ws a9 cI 8 st ++ (iw_ws mb0 cI 8 kS ++ (iw_ws mb1 cI 64 kR ++ (jw_ws a2 cJ 4 tf ++ (jw_ws a0 cJ 1232 nf ++ (jw_ws a1 cJ 616 cf ++ (iw_ws a5 cI 4 sf ++ (jw_ws mb4 cJ 4 sh ++ (jw_ws mb2 cJ 4 ky ++ jw_ws a3 cJ 16 lf))))))))))))) hD hS hA [26, 27, 28, 29, 30, 31, 32, 33, 34, 38, 41, 36, 37] rfl
    refine va_calli (va_runV (As := [.int x1, .long x2, .long x3, .long x4]) (rest := []) ⟨hx, hb, hml, hown, hts⟩ (c_Bm_share_2 l dC dI cJ cI H.size m0 e0 (t_tn T) n (t_bc T) P Q G (ckey (t_tn T) (t_kc T) (t_kp T)) (t_pa T) (t_pb T) (t_sht T) a0 a1 a2 a3 a4 a5 a6 a7 a8 a9 mb0 mb1 oc mb2 mb3 mb4 mb5 bf sc st sf tf nf cf sh ky lf (t_so T) (t_ko T) x1 x2 x3 x4 htn hgr hsh0 hclN hn hrs hky hpa hC1 hC2) (cwV 4 hts (gw_V gk_1149 gk_1150 gk_1151 gk_7 gk_1152) rfl rfl rfl (by decide +kernel) ⟨(Nat.le_of_ble_eq_true rfl), (Nat.le_of_ble_eq_true rfl)⟩) ⟨fun a U g mk q => by obtain ⟨q0, q1, qP, qK, qD⟩ := q; exact ⟨q0, q1, qP, va_K.moved (u := U) (U := U.calling g mk a) (Vm.Alike.refl U.vm) qK, qD⟩, va_recv hK hP (ci := 8) (q0 := 26) rfl rfl, fun U hU hW => ⟨rfl, by rw [hU], by rw [hU]; exact hPc, va_K.moved hW.alike hKc, hDc.weaken (fun _ _ _ _ => trivial)⟩⟩ rfl rfl hl.1 rfl (lv_room (Nat.le_of_ble_eq_true rfl)) d_law_1397 ⟨show cells + 8 + 0 ≤ 601024 by omega, show slots + 48 + 0 ≤ 7293034 by omega⟩) hS (fun q _ h => hFc q h) hFc (fun r_7 v9 t9 H1 locs ht hvm hw hB hz1 hk1 hS => ?_)
    obtain ⟨hP1, hK1, hD1⟩ := hB
    rw [ht] at hP1
    obtain ⟨hP, hD⟩ := va_joinQ (X := (jw_ws out cJ 1 of ++ (bb_ws b0 bd0 pr0 t0 au0 da (.ref g0) ++ (rw_ws da cJ (r8 u9.1.1 u9.1.2.1 u9.1.2.2.1 u9.1.2.2.2.1 u9.1.2.2.2.2.1 u9.1.2.2.2.2.2.1 u9.1.2.2.2.2.2.2.1 u9.1.2.2.2.2.2.2.2) ++ (bd_ws bd0 h0 ro lo n cR (rrf rb) (rrf lb) ++ (pr_ws pr0 h0 cm cJ u9.2.1 ++ (hu_ws h0 aw ax ay cJ cI u9.2.2 ++ (tt_ws t0 ka aa ba sa (.ref g0) cJ T ++ (au_ws au0 bd0 pr0 tu0 sd ++ (tt_ws tu0 uka uaa uba usa gu cJ T0 ++ (gp_ws g0 mF mE P f1 k1 Q f2 k2 G ++ (mo_ws m0 e0 (nI (t_tn T)) (nI n) (nI (t_bc T)) (lN P) (lN Q) (lN G) (lN (ckey (t_tn T) (t_kc T) (t_kp T))) (lN (t_pa T)) (lN (t_pb T)) (t_sht T) a0 a1 a2 a3 a4 a5 a6 a7 a8 a9 mb0 mb1 oc mb2 mb3 mb4 mb5 ++ (iw_ws a7 cI 256 bf ++ (iw_ws a8 cI 64 sc ++ (iw_ws a9 cI 8 st ++ (iw_ws mb0 cI 8 kS ++ (iw_ws mb1 cI 64 kR ++ (jw_ws a2 cJ 4 tf ++ (jw_ws a0 cJ 1232 nf ++ (jw_ws a1 cJ 616 cf ++ (iw_ws a4 cI 4 kf ++ (jw_ws mb2 cJ 4 ky ++ (jw_ws a3 cJ 16 lf ++ (iw_ws a5 cI 4 sf ++ (iw_ws a6 cI 64 vf ++ (jw_ws mb3 cJ 128 md ++ (jw_ws mb4 cJ 4 sh ++ iw_ws mb5 cI 64 ct))))))))))))))))))))))))))) (cx := (mo_ws m0 e0 (nI (t_tn T)) (nI n) (nI (t_bc T)) (lN P) (lN Q) (lN G) (lN (ckey (t_tn T) (t_kc T) (t_kp T))) (lN (t_pa T)) (lN (t_pb T)) (t_sht T) a0 a1 a2 a3 a4 a5 a6 a7 a8 a9 mb0 mb1 oc mb2 mb3 mb4 mb5 ++ (iw_ws a7 cI 256 bf ++ (iw_ws a8 cI 64 sc ++ (iw_ws a9 cI 8 st ++ (iw_ws mb0 cI 8 kS ++ (iw_ws mb1 cI 64 kR ++ (jw_ws a2 cJ 4 tf ++ (jw_ws a0 cJ 1232 nf ++ (jw_ws a1 cJ 616 cf ++ (iw_ws a5 cI 4 sf ++ (jw_ws mb4 cJ 4 sh ++ (jw_ws mb2 cJ 4 ky ++ jw_ws a3 cJ 16 lf))))))))))))) (wr := (jw_ws out cJ 1 of ++ (bb_ws b0 bd0 pr0 t0 au0 da (.ref g0) ++ (rw_ws da cJ (r8 u9.1.1 u9.1.2.1 u9.1.2.2.1 u9.1.2.2.2.1 u9.1.2.2.2.2.1 u9.1.2.2.2.2.2.1 u9.1.2.2.2.2.2.2.1 u9.1.2.2.2.2.2.2.2) ++ (bd_ws bd0 h0 ro lo n cR (rrf rb) (rrf lb) ++ (pr_ws pr0 h0 cm cJ u9.2.1 ++ (hu_ws h0 aw ax ay cJ cI u9.2.2 ++ (tt_ws t0 ka aa ba sa (.ref g0) cJ T ++ (au_ws au0 bd0 pr0 tu0 sd ++ (tt_ws tu0 uka uaa uba usa gu cJ T0 ++ (gp_ws g0 mF mE P f1 k1 Q f2 k2 G ++ (iw_ws a4 cI 4 kf ++ (iw_ws a6 cI 64 vf ++ (jw_ws mb3 cJ 128 md ++ iw_ws mb5 cI 64 ct)))))))))))))) (w1 := (mo_ws m0 2 (nI (t_tn T)) (nI n) (nI (t_bc T)) (lN P) (lN Q) (lN G) (lN (ckey (t_tn T) (t_kc T) (t_kp T))) (lN (t_pa T)) (lN (t_pb T)) (t_sht T) a0 a1 a2 a3 a4 a5 a6 a7 a8 a9 mb0 mb1 v9.1.2.2.2.2 mb2 mb3 mb4 mb5 ++ (iw_ws a7 cI 256 v9.1.1 ++ (iw_ws a8 cI 64 v9.1.2.1 ++ (iw_ws a9 cI 8 v9.1.2.2.1 ++ (iw_ws mb0 cI 8 kS ++ (iw_ws mb1 cI 64 kR ++ (jw_ws a2 cJ 4 v9.1.2.2.2.1 ++ (jw_ws a0 cJ 1232 nf ++ (jw_ws a1 cJ 616 cf ++ (iw_ws a5 cI 4 sf ++ (jw_ws mb4 cJ 4 sh ++ (jw_ws mb2 cJ 4 ky ++ jw_ws a3 cJ 16 v9.2))))))))))))) (pl := bpool rb lb cJ R Lk) hP hD [26, 27, 28, 29, 30, 31, 32, 33, 34, 38, 41, 36, 37] [0, 1, 2, 3, 4, 5, 6, 7, 8, 9, 10, 11, 12, 13, 14, 15, 16, 17, 18, 19, 20, 21, 22, 23, 24, 25, 35, 39, 40, 42] rfl rfl (by decide) (by decide) hk1 hFc hP1 hD1
    have hP := hP.part (cx := (jw_ws out cJ 1 of ++ (bb_ws b0 bd0 pr0 t0 au0 da (.ref g0) ++ (rw_ws da cJ (r8 u9.1.1 u9.1.2.1 u9.1.2.2.1 u9.1.2.2.2.1 u9.1.2.2.2.2.1 u9.1.2.2.2.2.2.1 u9.1.2.2.2.2.2.2.1 u9.1.2.2.2.2.2.2.2) ++ (bd_ws bd0 h0 ro lo n cR (rrf rb) (rrf lb) ++ (pr_ws pr0 h0 cm cJ u9.2.1 ++ (hu_ws h0 aw ax ay cJ cI u9.2.2 ++ (tt_ws t0 ka aa ba sa (.ref g0) cJ T ++ (au_ws au0 bd0 pr0 tu0 sd ++ (tt_ws tu0 uka uaa uba usa gu cJ T0 ++ (gp_ws g0 mF mE P f1 k1 Q f2 k2 G ++ (mo_ws m0 2 (nI (t_tn T)) (nI n) (nI (t_bc T)) (lN P) (lN Q) (lN G) (lN (ckey (t_tn T) (t_kc T) (t_kp T))) (lN (t_pa T)) (lN (t_pb T)) (t_sht T) a0 a1 a2 a3 a4 a5 a6 a7 a8 a9 mb0 mb1 v9.1.2.2.2.2 mb2 mb3 mb4 mb5 ++ (iw_ws a7 cI 256 v9.1.1 ++ (iw_ws a8 cI 64 v9.1.2.1 ++ (iw_ws a9 cI 8 v9.1.2.2.1 ++ (iw_ws mb0 cI 8 kS ++ (iw_ws mb1 cI 64 kR ++ (jw_ws a2 cJ 4 v9.1.2.2.2.1 ++ (jw_ws a0 cJ 1232 nf ++ (jw_ws a1 cJ 616 cf ++ (iw_ws a4 cI 4 kf ++ (jw_ws mb2 cJ 4 ky ++ (jw_ws a3 cJ 16 v9.2 ++ (iw_ws a5 cI 4 sf ++ (iw_ws a6 cI 64 vf ++ (jw_ws mb3 cJ 128 md ++ (jw_ws mb4 cJ 4 sh ++ iw_ws mb5 cI 64 ct))))))))))))))))))))))))))) [0, 1, 2, 3, 4, 5, 6, 7, 8, 9, 10, 11, 12, 13, 14, 15, 16, 17, 18, 19, 20, 21, 22, 23, 24, 25, 30, 31, 32, 33, 34, 35, 36, 37, 38, 26, 41, 42, 39, 27, 28, 40, 29] rfl
    have hD := hD.part (cx := (jw_ws out cJ 1 of ++ (bb_ws b0 bd0 pr0 t0 au0 da (.ref g0) ++ (rw_ws da cJ (r8 u9.1.1 u9.1.2.1 u9.1.2.2.1 u9.1.2.2.2.1 u9.1.2.2.2.2.1 u9.1.2.2.2.2.2.1 u9.1.2.2.2.2.2.2.1 u9.1.2.2.2.2.2.2.2) ++ (bd_ws bd0 h0 ro lo n cR (rrf rb) (rrf lb) ++ (pr_ws pr0 h0 cm cJ u9.2.1 ++ (hu_ws h0 aw ax ay cJ cI u9.2.2 ++ (tt_ws t0 ka aa ba sa (.ref g0) cJ T ++ (au_ws au0 bd0 pr0 tu0 sd ++ (tt_ws tu0 uka uaa uba usa gu cJ T0 ++ (gp_ws g0 mF mE P f1 k1 Q f2 k2 G ++ (mo_ws m0 2 (nI (t_tn T)) (nI n) (nI (t_bc T)) (lN P) (lN Q) (lN G) (lN (ckey (t_tn T) (t_kc T) (t_kp T))) (lN (t_pa T)) (lN (t_pb T)) (t_sht T) a0 a1 a2 a3 a4 a5 a6 a7 a8 a9 mb0 mb1 v9.1.2.2.2.2 mb2 mb3 mb4 mb5 ++ (iw_ws a7 cI 256 v9.1.1 ++ (iw_ws a8 cI 64 v9.1.2.1 ++ (iw_ws a9 cI 8 v9.1.2.2.1 ++ (iw_ws mb0 cI 8 kS ++ (iw_ws mb1 cI 64 kR ++ (jw_ws a2 cJ 4 v9.1.2.2.2.1 ++ (jw_ws a0 cJ 1232 nf ++ (jw_ws a1 cJ 616 cf ++ (iw_ws a4 cI 4 kf ++ (jw_ws mb2 cJ 4 ky ++ (jw_ws a3 cJ 16 v9.2 ++ (iw_ws a5 cI 4 sf ++ (iw_ws a6 cI 64 vf ++ (jw_ws mb3 cJ 128 md ++ (jw_ws mb4 cJ 4 sh ++ iw_ws mb5 cI 64 ct))))))))))))))))))))))))))) [0, 1, 2, 3, 4, 5, 6, 7, 8, 9, 10, 11, 12, 13, 14, 15, 16, 17, 18, 19, 20, 21, 22, 23, 24, 25, 30, 31, 32, 33, 34, 35, 36, 37, 38, 26, 41, 42, 39, 27, 28, 40, 29] (by decide) rfl
    generalize H1 = H at hP hS ⊢
    clear hPc hDc hFc hP1 hD1 hK1 ht hk1 hz1
    refine lv_istore (lv' := [(6, .int r_7), (5, .int 2), (4, .int (nI i)), (3, .ref out), (2, .ref m0), (1, .ref b0), (0, .ref b)]) hx hb d_law_1400 hl (by decide) rfl (fun ls hl => ?_)
    refine lv_aload_n hx hb d_law_1402 rfl (lv_at hl 4 rfl) ?_
    have hPc := hP.sub (ws' := (mo_ws m0 2 (nI (t_tn T)) (nI n) (nI (t_bc T)) (lN P) (lN Q) (lN G) (lN (ckey (t_tn T) (t_kc T) (t_kp T))) (lN (t_pa T)) (lN (t_pb T)) (t_sht T) a0 a1 a2 a3 a4 a5 a6 a7 a8 a9 mb0 mb1 v9.1.2.2.2.2 mb2 mb3 mb4 mb5)) [26] rfl
    have hKc := hK.sub (tys' := [(cJ, .long), (cI, .int)]) [0, 1] rfl
    refine va_calli (va_runV (As := []) (rest := []) ⟨hx, hb, hml, hown, hts⟩ (c_Bm_thrown l H dC dI cJ cI m0 2 (nI (t_tn T)) (nI n) (nI (t_bc T)) (lN P) (lN Q) (lN G) (lN (ckey (t_tn T) (t_kc T) (t_kp T))) (lN (t_pa T)) (lN (t_pb T)) (t_sht T) a0 a1 a2 a3 a4 a5 a6 a7 a8 a9 mb0 mb1 v9.1.2.2.2.2 mb2 mb3 mb4 mb5 hPc) (cwV 0 hts (gw_V gk_1004 gk_1005 gk_1006 gk_7 gk_1007) rfl rfl rfl (by decide +kernel) ⟨(Nat.le_of_ble_eq_true rfl), (Nat.le_of_ble_eq_true rfl)⟩) ⟨fun a U g mk q => ⟨q.1, q.2.1, va_K.moved (u := U) (U := U.calling g mk a) (Vm.Alike.refl U.vm) q.2.2⟩, va_recv hK hP (ci := 8) (q0 := 26) rfl rfl, fun U hU hW => ⟨rfl, hU, va_K.moved hW.alike hKc⟩⟩ rfl rfl hl.1 rfl (lv_room (Nat.le_of_ble_eq_true rfl)) d_law_1403 ⟨show cells + 8 + 0 + 0 ≤ 601024 by omega, show slots + 48 + 0 + 0 ≤ 7293034 by omega⟩) hS (fun q _ h => h.elim) (fun q h => h.elim) (fun r_8 w9 t9 H1 locs ht hvm hw9 hB hz1 hk1 hS => ?_)
    obtain rfl : H = H1 := hB.symm.trans ht
    have hw9 : r_8 = 2 := hw9
    subst hw9
    clear hPc hz1 hk1 hB
    refine lv_iload hx hb d_law_1406 (lv_at hl 1 rfl) ?_
    refine lv_icmp_eq (tgt := 1413) hx hb d_law_1408 (by decide) (fun c_9 => ?_) (fun c_9 => ?_)
    · -- taken
      refine lv_iload hx hb d_law_1413 (lv_at hl 1 rfl) ?_
      refine lv_if_ne (tgt := 1430) hx hb d_law_1415 (by decide) (fun c_10 => ?_) (fun c_10 => ?_)
      · -- taken
        refine lv_goto (tgt := 1965) hx hb d_law_1430 (by decide) ?_
        refine W.widen (k := cells + 20) (n := slots + 200) (by omega) (by omega) ?_
        have hI9 : LI dC dI cJ cI cR A out b0 m0 H := LG.mk hP hD hR
        exact cont _ _ _ hS hI9 (lv_sub hl [2, 3, 4, 5, 6] rfl)
      · -- not taken
        exact absurd c_10 (by decide)
    · -- not taken
      exact absurd c_9 (by decide)
  refine lv_aload_n hx hb d_law_1241 rfl (lv_at hl 3 rfl) ?_
  refine lv_aload_n hx hb d_law_1242 rfl (lv_at hl 4 rfl) ?_
  refine lv_iload hx hb d_law_1243 (lv_at hl 0 rfl) ?_
  refine lv_iconst (v := 1) hx hb d_law_1245 (by decide) ?_
  refine lv_iadd hx hb d_law_1246 ?_
  rw [show ((nI i) + 1 : Int32) = nI (i + 1) from nI_add _ 1]
  refine va_sld hx hb hX hbl hbA hS (vp_in_nI (by omega) (by omega)) d_law_1247 ?_
  rw [show (xs (nI (i + 1)).toNatClampNeg : Int32) = xs (i + 1) from by rw [nI_clamp (by omega)]]
  rw [show (xs (i + 1) : Int32) = x1 from hx1.symm]
  refine lv_aload_n hx hb d_law_1248 rfl (lv_at hl 4 rfl) ?_
  refine lv_iload hx hb d_law_1249 (lv_at hl 0 rfl) ?_
  refine lv_iconst (v := 2) hx hb d_law_1251 (by decide) ?_
  refine lv_iadd hx hb d_law_1252 ?_
  rw [show ((nI i) + 2 : Int32) = nI (i + 2) from nI_add _ 2]
  refine va_sld hx hb hX hbl hbA hS (vp_in_nI (by omega) (by omega)) d_law_1253 ?_
  rw [show (xs (nI (i + 2)).toNatClampNeg : Int32) = xs (i + 2) from by rw [nI_clamp (by omega)]]
  refine lv_i2l (v := (xs (i + 2) : Int32).toInt64) hx hb d_law_1254 rfl ?_
  refine lv_bipush (v := 32) hx hb d_law_1255 (by decide) ?_
  refine lv_lshl (v := ((xs (i + 2) : Int32).toInt64 : Int64) <<< ((32 : Int32).toInt64 &&& 63)) hx hb d_law_1257 rfl ?_
  refine lv_aload_n hx hb d_law_1258 rfl (lv_at hl 4 rfl) ?_
  refine lv_iload hx hb d_law_1259 (lv_at hl 0 rfl) ?_
  refine lv_iconst (v := 3) hx hb d_law_1261 (by decide) ?_
  refine lv_iadd hx hb d_law_1262 ?_
  rw [show ((nI i) + 3 : Int32) = nI (i + 3) from nI_add _ 3]
  refine va_sld hx hb hX hbl hbA hS (vp_in_nI (by omega) (by omega)) d_law_1263 ?_
  rw [show (xs (nI (i + 3)).toNatClampNeg : Int32) = xs (i + 3) from by rw [nI_clamp (by omega)]]
  refine lv_i2l (v := (xs (i + 3) : Int32).toInt64) hx hb d_law_1264 rfl ?_
  refine lv_ldc2 (v := 4294967295) hx hb hown (hts _ (List.mem_cons_of_mem _ gk_1202)) d_law_1265 ?_
  refine lv_land hx hb d_law_1268 ?_
  refine lv_lor hx hb d_law_1269 ?_
  rw [show ((((xs (i + 2) : Int32).toInt64 : Int64) <<< ((32 : Int32).toInt64 &&& 63)) ||| (((xs (i + 3) : Int32).toInt64) &&& 4294967295) : Int64) = x2 from hx2.symm]
  refine lv_aload_n hx hb d_law_1270 rfl (lv_at hl 4 rfl) ?_
  refine lv_iload hx hb d_law_1271 (lv_at hl 0 rfl) ?_
  refine lv_iconst (v := 4) hx hb d_law_1273 (by decide) ?_
  refine lv_iadd hx hb d_law_1274 ?_
  rw [show ((nI i) + 4 : Int32) = nI (i + 4) from nI_add _ 4]
  refine va_sld hx hb hX hbl hbA hS (vp_in_nI (by omega) (by omega)) d_law_1275 ?_
  rw [show (xs (nI (i + 4)).toNatClampNeg : Int32) = xs (i + 4) from by rw [nI_clamp (by omega)]]
  refine lv_i2l (v := (xs (i + 4) : Int32).toInt64) hx hb d_law_1276 rfl ?_
  refine lv_bipush (v := 32) hx hb d_law_1277 (by decide) ?_
  refine lv_lshl (v := ((xs (i + 4) : Int32).toInt64 : Int64) <<< ((32 : Int32).toInt64 &&& 63)) hx hb d_law_1279 rfl ?_
  refine lv_aload_n hx hb d_law_1280 rfl (lv_at hl 4 rfl) ?_
  refine lv_iload hx hb d_law_1281 (lv_at hl 0 rfl) ?_
  refine lv_iconst (v := 5) hx hb d_law_1283 (by decide) ?_
  refine lv_iadd hx hb d_law_1284 ?_
  rw [show ((nI i) + 5 : Int32) = nI (i + 5) from nI_add _ 5]
  refine va_sld hx hb hX hbl hbA hS (vp_in_nI (by omega) (by omega)) d_law_1285 ?_
  rw [show (xs (nI (i + 5)).toNatClampNeg : Int32) = xs (i + 5) from by rw [nI_clamp (by omega)]]
  refine lv_i2l (v := (xs (i + 5) : Int32).toInt64) hx hb d_law_1286 rfl ?_
  refine lv_ldc2 (v := 4294967295) hx hb hown (hts _ (List.mem_cons_of_mem _ gk_1202)) d_law_1287 ?_
  refine lv_land hx hb d_law_1290 ?_
  refine lv_lor hx hb d_law_1291 ?_
  rw [show ((((xs (i + 4) : Int32).toInt64 : Int64) <<< ((32 : Int32).toInt64 &&& 63)) ||| (((xs (i + 5) : Int32).toInt64) &&& 4294967295) : Int64) = x3 from hx3.symm]
  refine lv_aload_n hx hb d_law_1292 rfl (lv_at hl 4 rfl) ?_
  refine lv_iload hx hb d_law_1293 (lv_at hl 0 rfl) ?_
  refine lv_bipush (v := 6) hx hb d_law_1295 (by decide) ?_
  refine lv_iadd hx hb d_law_1297 ?_
  rw [show ((nI i) + 6 : Int32) = nI (i + 6) from nI_add _ 6]
  refine va_sld hx hb hX hbl hbA hS (vp_in_nI (by omega) (by omega)) d_law_1298 ?_
  rw [show (xs (nI (i + 6)).toNatClampNeg : Int32) = xs (i + 6) from by rw [nI_clamp (by omega)]]
  refine lv_i2l (v := (xs (i + 6) : Int32).toInt64) hx hb d_law_1299 rfl ?_
  refine lv_bipush (v := 32) hx hb d_law_1300 (by decide) ?_
  refine lv_lshl (v := ((xs (i + 6) : Int32).toInt64 : Int64) <<< ((32 : Int32).toInt64 &&& 63)) hx hb d_law_1302 rfl ?_
  refine lv_aload_n hx hb d_law_1303 rfl (lv_at hl 4 rfl) ?_
  refine lv_iload hx hb d_law_1304 (lv_at hl 0 rfl) ?_
  refine lv_bipush (v := 7) hx hb d_law_1306 (by decide) ?_
  refine lv_iadd hx hb d_law_1308 ?_
  rw [show ((nI i) + 7 : Int32) = nI (i + 7) from nI_add _ 7]
  refine va_sld hx hb hX hbl hbA hS (vp_in_nI (by omega) (by omega)) d_law_1309 ?_
  rw [show (xs (nI (i + 7)).toNatClampNeg : Int32) = xs (i + 7) from by rw [nI_clamp (by omega)]]
  refine lv_i2l (v := (xs (i + 7) : Int32).toInt64) hx hb d_law_1310 rfl ?_
  refine lv_ldc2 (v := 4294967295) hx hb hown (hts _ (List.mem_cons_of_mem _ gk_1202)) d_law_1311 ?_
  refine lv_land hx hb d_law_1314 ?_
  refine lv_lor hx hb d_law_1315 ?_
  rw [show ((((xs (i + 6) : Int32).toInt64 : Int64) <<< ((32 : Int32).toInt64 &&& 63)) ||| (((xs (i + 7) : Int32).toInt64) &&& 4294967295) : Int64) = x4 from hx4.symm]
  refine lv_aload_n hx hb d_law_1316 rfl (lv_at hl 1 rfl) ?_
  have hPc := hP.part (cx := (jw_ws out cJ 1 of ++ (bb_ws b0 bd0 pr0 t0 au0 da (.ref g0) ++ (rw_ws da cJ (r8 d0 d1 d2 d3 d4 d5 d6 d7) ++ (bd_ws bd0 h0 ro lo n cR (rrf rb) (rrf lb) ++ (pr_ws pr0 h0 cm cJ ccf ++ (ha_ws h0 aw ax ay cJ cI w csc cst cL ++ (tt_ws t0 ka aa ba sa (.ref g0) cJ T ++ gp_ws g0 mF mE P f1 k1 Q f2 k2 G)))))))) [0, 1, 2, 3, 4, 5, 6, 7, 8, 9, 10, 11, 12, 13, 14, 15, 16, 23, 24, 25] rfl
  have hDc := hD.part (cx := (jw_ws out cJ 1 of ++ (bb_ws b0 bd0 pr0 t0 au0 da (.ref g0) ++ (rw_ws da cJ (r8 d0 d1 d2 d3 d4 d5 d6 d7) ++ (bd_ws bd0 h0 ro lo n cR (rrf rb) (rrf lb) ++ (pr_ws pr0 h0 cm cJ ccf ++ (ha_ws h0 aw ax ay cJ cI w csc cst cL ++ (tt_ws t0 ka aa ba sa (.ref g0) cJ T ++ gp_ws g0 mF mE P f1 k1 Q f2 k2 G)))))))) [0, 1, 2, 3, 4, 5, 6, 7, 8, 9, 10, 11, 12, 13, 14, 15, 16, 23, 24, 25] (by decide) rfl
  have hKc := hK.sub (tys' := [(cJ, .long), (cI, .int), (cR, .array .long)]) [0, 1, 2] rfl
  have hFc := va_freeP (cx := (jw_ws out cJ 1 of ++ (bb_ws b0 bd0 pr0 t0 au0 da (.ref g0) ++ (rw_ws da cJ (r8 d0 d1 d2 d3 d4 d5 d6 d7) ++ (bd_ws bd0 h0 ro lo n cR (rrf rb) (rrf lb) ++ (pr_ws pr0 h0 cm cJ ccf ++ (ha_ws h0 aw ax ay cJ cI w csc cst cL ++ (tt_ws t0 ka aa ba sa (.ref g0) cJ T ++ gp_ws g0 mF mE P f1 k1 Q f2 k2 G)))))))) hD hS hA [0, 1, 2, 3, 4, 5, 6, 7, 8, 9, 10, 11, 12, 13, 14, 15, 16, 23, 24, 25] rfl
  have hZc0 : ha_Z rA sA (va_A ((jw_ws out cJ 1 of ++ (bb_ws b0 bd0 pr0 t0 au0 da (.ref g0) ++ (rw_ws da cJ (r8 d0 d1 d2 d3 d4 d5 d6 d7) ++ (bd_ws bd0 h0 ro lo n cR (rrf rb) (rrf lb) ++ (pr_ws pr0 h0 cm cJ ccf ++ (ha_ws h0 aw ax ay cJ cI w csc cst cL ++ (tt_ws t0 ka aa ba sa (.ref g0) cJ T ++ gp_ws g0 mF mE P f1 k1 Q f2 k2 G))))))) ++ bpool rb lb cJ R Lk) H.size) s H := (hZha.kept hS.2.1).narrow hFc
  have hZc1 : xz (va_A ((jw_ws out cJ 1 of ++ (bb_ws b0 bd0 pr0 t0 au0 da (.ref g0) ++ (rw_ws da cJ (r8 d0 d1 d2 d3 d4 d5 d6 d7) ++ (bd_ws bd0 h0 ro lo n cR (rrf rb) (rrf lb) ++ (pr_ws pr0 h0 cm cJ ccf ++ (ha_ws h0 aw ax ay cJ cI w csc cst cL ++ (tt_ws t0 ka aa ba sa (.ref g0) cJ T ++ gp_ws g0 mF mE P f1 k1 Q f2 k2 G))))))) ++ bpool rb lb cJ R Lk) H.size) s H := (hZx.kept hS.2.1).narrow hFc
  have hZc2 : nc_Z s := hZn
  refine vx_calli (vx_runSX (hh := h_Lw_share) (As := [.ref b0, .int x1, .long x2, .long x3, .long x4, .ref out]) (rest := []) ⟨hx, hb, hml, hown, hts⟩ (c_Lw_share_0 l hnt dC dI cJ cI cR H.size b0 bd0 pr0 t0 au0 da h0 ro lo n rb lb cm ccf aw ax ay w csc cst cL ka aa ba sa T g0 mF mE P f1 k1 Q f2 k2 G rA sA R Lk d0 d1 d2 d3 d4 d5 d6 d7 x1 x2 x3 x4 out of hok htok hN0 htn hkc hn hnS hn0S hC1 hC2) (vx_cwSW 6 hts (gw_Sv gk_702 gk_703 gk_0 gk_704) rfl rfl rfl (by decide +kernel) ⟨(Nat.le_of_ble_eq_true rfl), (Nat.le_of_ble_eq_true rfl)⟩) ⟨fun a U g mk q => by obtain ⟨q0, q1, qP, qK, qD, qZ0, qZ1, qZ2⟩ := q; exact ⟨q0, q1, qP, va_K.moved (u := U) (U := U.calling g mk a) (Vm.Alike.refl U.vm) qK, qD, ha_Z.moved (u := U) (U := U.calling g mk a) (Vm.Alike.refl U.vm) qZ0, xz.same (u := U) (U := U.calling g mk a) rfl qZ1, nc_Z.moved (u := U) (U := U.calling g mk a) (Vm.Alike.refl U.vm) qZ2⟩, fun U hU hW => ⟨rfl, by rw [hU], by rw [hU]; exact hPc, va_K.moved hW.alike hKc, hDc.weaken (fun _ _ _ _ => trivial), by rw [hU]; exact ha_Z.moved hW.alike hZc0, by rw [hU]; exact xz.warm hW hZc1, nc_Z.moved hW.alike hZc2⟩⟩ rfl rfl hl.1 rfl (lv_room (Nat.le_of_ble_eq_true rfl)) d_law_1317 ⟨show cells + 8 ≤ 601024 by omega, show slots + 48 ≤ 7293034 by omega⟩) hS (fun q _ h => hFc q h) hFc (fun q _ h => hFc q h) (fun E9 ce9 q9 u8 t9 H1 locs ht hvm hpx hbx hz1 hk1 hS hce hcv hcl => hpx.elim) (fun r_11 u9 t9 H1 locs ht hvm hw hB hz1 hk1 hS => ?_)
  obtain ⟨hP1, hK1, hD1⟩ := hB
  rw [ht] at hP1
  obtain ⟨hP, hD⟩ := va_joinP (X := (jw_ws out cJ 1 of ++ (bb_ws b0 bd0 pr0 t0 au0 da (.ref g0) ++ (rw_ws da cJ (r8 d0 d1 d2 d3 d4 d5 d6 d7) ++ (bd_ws bd0 h0 ro lo n cR (rrf rb) (rrf lb) ++ (pr_ws pr0 h0 cm cJ ccf ++ (ha_ws h0 aw ax ay cJ cI w csc cst cL ++ (tt_ws t0 ka aa ba sa (.ref g0) cJ T ++ (au_ws au0 bd0 pr0 tu0 sd ++ (tt_ws tu0 uka uaa uba usa gu cJ T0 ++ (gp_ws g0 mF mE P f1 k1 Q f2 k2 G ++ (mo_ws m0 e0 (nI (t_tn T)) (nI n) (nI (t_bc T)) (lN P) (lN Q) (lN G) (lN (ckey (t_tn T) (t_kc T) (t_kp T))) (lN (t_pa T)) (lN (t_pb T)) (t_sht T) a0 a1 a2 a3 a4 a5 a6 a7 a8 a9 mb0 mb1 oc mb2 mb3 mb4 mb5 ++ (iw_ws a7 cI 256 bf ++ (iw_ws a8 cI 64 sc ++ (iw_ws a9 cI 8 st ++ (iw_ws mb0 cI 8 kS ++ (iw_ws mb1 cI 64 kR ++ (jw_ws a2 cJ 4 tf ++ (jw_ws a0 cJ 1232 nf ++ (jw_ws a1 cJ 616 cf ++ (iw_ws a4 cI 4 kf ++ (jw_ws mb2 cJ 4 ky ++ (jw_ws a3 cJ 16 lf ++ (iw_ws a5 cI 4 sf ++ (iw_ws a6 cI 64 vf ++ (jw_ws mb3 cJ 128 md ++ (jw_ws mb4 cJ 4 sh ++ iw_ws mb5 cI 64 ct))))))))))))))))))))))))))) (cx := (jw_ws out cJ 1 of ++ (bb_ws b0 bd0 pr0 t0 au0 da (.ref g0) ++ (rw_ws da cJ (r8 d0 d1 d2 d3 d4 d5 d6 d7) ++ (bd_ws bd0 h0 ro lo n cR (rrf rb) (rrf lb) ++ (pr_ws pr0 h0 cm cJ ccf ++ (ha_ws h0 aw ax ay cJ cI w csc cst cL ++ (tt_ws t0 ka aa ba sa (.ref g0) cJ T ++ gp_ws g0 mF mE P f1 k1 Q f2 k2 G)))))))) (wr := (au_ws au0 bd0 pr0 tu0 sd ++ (tt_ws tu0 uka uaa uba usa gu cJ T0 ++ (mo_ws m0 e0 (nI (t_tn T)) (nI n) (nI (t_bc T)) (lN P) (lN Q) (lN G) (lN (ckey (t_tn T) (t_kc T) (t_kp T))) (lN (t_pa T)) (lN (t_pb T)) (t_sht T) a0 a1 a2 a3 a4 a5 a6 a7 a8 a9 mb0 mb1 oc mb2 mb3 mb4 mb5 ++ (iw_ws a7 cI 256 bf ++ (iw_ws a8 cI 64 sc ++ (iw_ws a9 cI 8 st ++ (iw_ws mb0 cI 8 kS ++ (iw_ws mb1 cI 64 kR ++ (jw_ws a2 cJ 4 tf ++ (jw_ws a0 cJ 1232 nf ++ (jw_ws a1 cJ 616 cf ++ (iw_ws a4 cI 4 kf ++ (jw_ws mb2 cJ 4 ky ++ (jw_ws a3 cJ 16 lf ++ (iw_ws a5 cI 4 sf ++ (iw_ws a6 cI 64 vf ++ (jw_ws mb3 cJ 128 md ++ (jw_ws mb4 cJ 4 sh ++ iw_ws mb5 cI 64 ct))))))))))))))))))) (rx := (jw_ws out cJ 1 (vp_updL of 0 (lN n)) ++ (bb_ws b0 bd0 pr0 t0 au0 da (.ref g0) ++ (rw_ws da cJ (r8 (lN 3) (lN u9.1) x2 x3 x4 d5 d6 d7) ++ (bd_ws bd0 h0 ro lo (n + 1) cR (rrf rb) (rrf lb) ++ (pr_ws pr0 h0 cm cJ u9.2.1 ++ (hu_ws h0 aw ax ay cJ cI u9.2.2 ++ (tt_ws t0 ka aa ba sa (.ref g0) cJ (tSha P u9.1 (vN x2) T) ++ gp_ws g0 mF mE P f1 k1 Q f2 k2 G)))))))) (pl := bpool rb lb cJ R Lk) (pl1 := bpool rb lb cJ (updF R n (r8 (lN 3) (lN u9.1) x2 x3 x4 d5 d6 d7)) (updF Lk n (lkw (msgL 3 n (r8 (lN 3) (lN u9.1) x2 x3 x4 d5 d6 d7) Lk)))) hP hD [0, 1, 2, 3, 4, 5, 6, 7, 8, 9, 10, 11, 12, 13, 14, 15, 16, 23, 24, 25] [17, 18, 19, 20, 21, 22, 26, 27, 28, 29, 30, 31, 32, 33, 34, 35, 36, 37, 38, 39, 40, 41, 42] rfl rfl (by decide) (by decide) hk1 hFc hP1 hD1
  have hP := hP.part (cx := (jw_ws out cJ 1 (vp_updL of 0 (lN n)) ++ (bb_ws b0 bd0 pr0 t0 au0 da (.ref g0) ++ (rw_ws da cJ (r8 (lN 3) (lN u9.1) x2 x3 x4 d5 d6 d7) ++ (bd_ws bd0 h0 ro lo (n + 1) cR (rrf rb) (rrf lb) ++ (pr_ws pr0 h0 cm cJ u9.2.1 ++ (hu_ws h0 aw ax ay cJ cI u9.2.2 ++ (tt_ws t0 ka aa ba sa (.ref g0) cJ (tSha P u9.1 (vN x2) T) ++ (au_ws au0 bd0 pr0 tu0 sd ++ (tt_ws tu0 uka uaa uba usa gu cJ T0 ++ (gp_ws g0 mF mE P f1 k1 Q f2 k2 G ++ (mo_ws m0 e0 (nI (t_tn T)) (nI n) (nI (t_bc T)) (lN P) (lN Q) (lN G) (lN (ckey (t_tn T) (t_kc T) (t_kp T))) (lN (t_pa T)) (lN (t_pb T)) (t_sht T) a0 a1 a2 a3 a4 a5 a6 a7 a8 a9 mb0 mb1 oc mb2 mb3 mb4 mb5 ++ (iw_ws a7 cI 256 bf ++ (iw_ws a8 cI 64 sc ++ (iw_ws a9 cI 8 st ++ (iw_ws mb0 cI 8 kS ++ (iw_ws mb1 cI 64 kR ++ (jw_ws a2 cJ 4 tf ++ (jw_ws a0 cJ 1232 nf ++ (jw_ws a1 cJ 616 cf ++ (iw_ws a4 cI 4 kf ++ (jw_ws mb2 cJ 4 ky ++ (jw_ws a3 cJ 16 lf ++ (iw_ws a5 cI 4 sf ++ (iw_ws a6 cI 64 vf ++ (jw_ws mb3 cJ 128 md ++ (jw_ws mb4 cJ 4 sh ++ iw_ws mb5 cI 64 ct))))))))))))))))))))))))))) [23, 24, 25, 26, 27, 28, 29, 30, 31, 32, 33, 34, 35, 36, 37, 38, 39, 0, 1, 2, 3, 4, 5, 40, 41, 42, 6, 7, 8, 9, 10, 11, 12, 13, 14, 15, 16, 17, 18, 19, 20, 21, 22] rfl
  have hD := hD.part (cx := (jw_ws out cJ 1 (vp_updL of 0 (lN n)) ++ (bb_ws b0 bd0 pr0 t0 au0 da (.ref g0) ++ (rw_ws da cJ (r8 (lN 3) (lN u9.1) x2 x3 x4 d5 d6 d7) ++ (bd_ws bd0 h0 ro lo (n + 1) cR (rrf rb) (rrf lb) ++ (pr_ws pr0 h0 cm cJ u9.2.1 ++ (hu_ws h0 aw ax ay cJ cI u9.2.2 ++ (tt_ws t0 ka aa ba sa (.ref g0) cJ (tSha P u9.1 (vN x2) T) ++ (au_ws au0 bd0 pr0 tu0 sd ++ (tt_ws tu0 uka uaa uba usa gu cJ T0 ++ (gp_ws g0 mF mE P f1 k1 Q f2 k2 G ++ (mo_ws m0 e0 (nI (t_tn T)) (nI n) (nI (t_bc T)) (lN P) (lN Q) (lN G) (lN (ckey (t_tn T) (t_kc T) (t_kp T))) (lN (t_pa T)) (lN (t_pb T)) (t_sht T) a0 a1 a2 a3 a4 a5 a6 a7 a8 a9 mb0 mb1 oc mb2 mb3 mb4 mb5 ++ (iw_ws a7 cI 256 bf ++ (iw_ws a8 cI 64 sc ++ (iw_ws a9 cI 8 st ++ (iw_ws mb0 cI 8 kS ++ (iw_ws mb1 cI 64 kR ++ (jw_ws a2 cJ 4 tf ++ (jw_ws a0 cJ 1232 nf ++ (jw_ws a1 cJ 616 cf ++ (iw_ws a4 cI 4 kf ++ (jw_ws mb2 cJ 4 ky ++ (jw_ws a3 cJ 16 lf ++ (iw_ws a5 cI 4 sf ++ (iw_ws a6 cI 64 vf ++ (jw_ws mb3 cJ 128 md ++ (jw_ws mb4 cJ 4 sh ++ iw_ws mb5 cI 64 ct))))))))))))))))))))))))))) [23, 24, 25, 26, 27, 28, 29, 30, 31, 32, 33, 34, 35, 36, 37, 38, 39, 0, 1, 2, 3, 4, 5, 40, 41, 42, 6, 7, 8, 9, 10, 11, 12, 13, 14, 15, 16, 17, 18, 19, 20, 21, 22] (by decide) rfl
  generalize H1 = H at hP hS ⊢
  clear hPc hDc hFc hP1 hD1 hK1 ht hk1 hz1
  have hr9 : r_11 = 0 := hw.1
  subst hr9
  have hw := hw.2
  obtain ⟨hxI, hI, _, _, hh⟩ := hw
  have hcl1 : t_sht T = 1 := Classical.byContradiction (fun q => hC1 (Or.inl q))
  have hs0 : t_so T u9.1 = 0 := Classical.byContradiction (fun q => hC1 (Or.inr ⟨u9.1, hxI, hI, q⟩))
  have hn1 : n < 154 := hnS u9.1 hI hs0
  have hn0 : 0 < n := hn0S hcl1
  refine lv_istore (lv' := [(5, .int 0), (4, .int (nI i)), (3, .ref out), (2, .ref m0), (1, .ref b0), (0, .ref b)]) hx hb d_law_1320 hl (by decide) rfl (fun ls hl => ?_)
  refine lv_aload_n hx hb d_law_1322 rfl (lv_at hl 3 rfl) ?_
  refine lv_aload_n hx hb d_law_1323 rfl (lv_at hl 5 rfl) ?_
  refine lv_iload hx hb d_law_1324 (lv_at hl 1 rfl) ?_
  refine lv_iconst (v := 1) hx hb d_law_1326 (by decide) ?_
  refine lv_iadd hx hb d_law_1327 ?_
  rw [show ((nI i) + 1 : Int32) = nI (i + 1) from nI_add _ 1]
  refine va_sld hx hb hX hbl hbA hS (vp_in_nI (by omega) (by omega)) d_law_1328 ?_
  rw [show (xs (nI (i + 1)).toNatClampNeg : Int32) = xs (i + 1) from by rw [nI_clamp (by omega)]]
  rw [show (xs (i + 1) : Int32) = nI u9.1 from (hx1.symm.trans hxI)]
  refine lv_aload_n hx hb d_law_1329 rfl (lv_at hl 5 rfl) ?_
  refine lv_iload hx hb d_law_1330 (lv_at hl 1 rfl) ?_
  refine lv_iconst (v := 2) hx hb d_law_1332 (by decide) ?_
  refine lv_iadd hx hb d_law_1333 ?_
  rw [show ((nI i) + 2 : Int32) = nI (i + 2) from nI_add _ 2]
  refine va_sld hx hb hX hbl hbA hS (vp_in_nI (by omega) (by omega)) d_law_1334 ?_
  rw [show (xs (nI (i + 2)).toNatClampNeg : Int32) = xs (i + 2) from by rw [nI_clamp (by omega)]]
  refine lv_i2l (v := (xs (i + 2) : Int32).toInt64) hx hb d_law_1335 rfl ?_
  refine lv_bipush (v := 32) hx hb d_law_1336 (by decide) ?_
  refine lv_lshl (v := ((xs (i + 2) : Int32).toInt64 : Int64) <<< ((32 : Int32).toInt64 &&& 63)) hx hb d_law_1338 rfl ?_
  refine lv_aload_n hx hb d_law_1339 rfl (lv_at hl 5 rfl) ?_
  refine lv_iload hx hb d_law_1340 (lv_at hl 1 rfl) ?_
  refine lv_iconst (v := 3) hx hb d_law_1342 (by decide) ?_
  refine lv_iadd hx hb d_law_1343 ?_
  rw [show ((nI i) + 3 : Int32) = nI (i + 3) from nI_add _ 3]
  refine va_sld hx hb hX hbl hbA hS (vp_in_nI (by omega) (by omega)) d_law_1344 ?_
  rw [show (xs (nI (i + 3)).toNatClampNeg : Int32) = xs (i + 3) from by rw [nI_clamp (by omega)]]
  refine lv_i2l (v := (xs (i + 3) : Int32).toInt64) hx hb d_law_1345 rfl ?_
  refine lv_ldc2 (v := 4294967295) hx hb hown (hts _ (List.mem_cons_of_mem _ gk_1202)) d_law_1346 ?_
  refine lv_land hx hb d_law_1349 ?_
  refine lv_lor hx hb d_law_1350 ?_
  rw [show ((((xs (i + 2) : Int32).toInt64 : Int64) <<< ((32 : Int32).toInt64 &&& 63)) ||| (((xs (i + 3) : Int32).toInt64) &&& 4294967295) : Int64) = lN (vN x2) from (hx2.symm.trans (vN_lN x2).symm)]
  refine lv_aload_n hx hb d_law_1351 rfl (lv_at hl 5 rfl) ?_
  refine lv_iload hx hb d_law_1352 (lv_at hl 1 rfl) ?_
  refine lv_iconst (v := 4) hx hb d_law_1354 (by decide) ?_
  refine lv_iadd hx hb d_law_1355 ?_
  rw [show ((nI i) + 4 : Int32) = nI (i + 4) from nI_add _ 4]
  refine va_sld hx hb hX hbl hbA hS (vp_in_nI (by omega) (by omega)) d_law_1356 ?_
  rw [show (xs (nI (i + 4)).toNatClampNeg : Int32) = xs (i + 4) from by rw [nI_clamp (by omega)]]
  refine lv_i2l (v := (xs (i + 4) : Int32).toInt64) hx hb d_law_1357 rfl ?_
  refine lv_bipush (v := 32) hx hb d_law_1358 (by decide) ?_
  refine lv_lshl (v := ((xs (i + 4) : Int32).toInt64 : Int64) <<< ((32 : Int32).toInt64 &&& 63)) hx hb d_law_1360 rfl ?_
  refine lv_aload_n hx hb d_law_1361 rfl (lv_at hl 5 rfl) ?_
  refine lv_iload hx hb d_law_1362 (lv_at hl 1 rfl) ?_
  refine lv_iconst (v := 5) hx hb d_law_1364 (by decide) ?_
  refine lv_iadd hx hb d_law_1365 ?_
  rw [show ((nI i) + 5 : Int32) = nI (i + 5) from nI_add _ 5]
  refine va_sld hx hb hX hbl hbA hS (vp_in_nI (by omega) (by omega)) d_law_1366 ?_
  rw [show (xs (nI (i + 5)).toNatClampNeg : Int32) = xs (i + 5) from by rw [nI_clamp (by omega)]]
  refine lv_i2l (v := (xs (i + 5) : Int32).toInt64) hx hb d_law_1367 rfl ?_
  refine lv_ldc2 (v := 4294967295) hx hb hown (hts _ (List.mem_cons_of_mem _ gk_1202)) d_law_1368 ?_
  refine lv_land hx hb d_law_1371 ?_
  refine lv_lor hx hb d_law_1372 ?_
  rw [show ((((xs (i + 4) : Int32).toInt64 : Int64) <<< ((32 : Int32).toInt64 &&& 63)) ||| (((xs (i + 5) : Int32).toInt64) &&& 4294967295) : Int64) = x3 from hx3.symm]
  refine lv_aload_n hx hb d_law_1373 rfl (lv_at hl 5 rfl) ?_
  refine lv_iload hx hb d_law_1374 (lv_at hl 1 rfl) ?_
  refine lv_bipush (v := 6) hx hb d_law_1376 (by decide) ?_
  refine lv_iadd hx hb d_law_1378 ?_
  rw [show ((nI i) + 6 : Int32) = nI (i + 6) from nI_add _ 6]
  refine va_sld hx hb hX hbl hbA hS (vp_in_nI (by omega) (by omega)) d_law_1379 ?_
  rw [show (xs (nI (i + 6)).toNatClampNeg : Int32) = xs (i + 6) from by rw [nI_clamp (by omega)]]
  refine lv_i2l (v := (xs (i + 6) : Int32).toInt64) hx hb d_law_1380 rfl ?_
  refine lv_bipush (v := 32) hx hb d_law_1381 (by decide) ?_
  refine lv_lshl (v := ((xs (i + 6) : Int32).toInt64 : Int64) <<< ((32 : Int32).toInt64 &&& 63)) hx hb d_law_1383 rfl ?_
  refine lv_aload_n hx hb d_law_1384 rfl (lv_at hl 5 rfl) ?_
  refine lv_iload hx hb d_law_1385 (lv_at hl 1 rfl) ?_
  refine lv_bipush (v := 7) hx hb d_law_1387 (by decide) ?_
  refine lv_iadd hx hb d_law_1389 ?_
  rw [show ((nI i) + 7 : Int32) = nI (i + 7) from nI_add _ 7]
  refine va_sld hx hb hX hbl hbA hS (vp_in_nI (by omega) (by omega)) d_law_1390 ?_
  rw [show (xs (nI (i + 7)).toNatClampNeg : Int32) = xs (i + 7) from by rw [nI_clamp (by omega)]]
  refine lv_i2l (v := (xs (i + 7) : Int32).toInt64) hx hb d_law_1391 rfl ?_
  refine lv_ldc2 (v := 4294967295) hx hb hown (hts _ (List.mem_cons_of_mem _ gk_1202)) d_law_1392 ?_
  refine lv_land hx hb d_law_1395 ?_
  refine lv_lor hx hb d_law_1396 ?_
  rw [show ((((xs (i + 6) : Int32).toInt64 : Int64) <<< ((32 : Int32).toInt64 &&& 63)) ||| (((xs (i + 7) : Int32).toInt64) &&& 4294967295) : Int64) = x4 from hx4.symm]
  have hPc := hP.sub (ws' := (mo_ws m0 e0 (nI (t_tn T)) (nI n) (nI (t_bc T)) (lN P) (lN Q) (lN G) (lN (ckey (t_tn T) (t_kc T) (t_kp T))) (lN (t_pa T)) (lN (t_pb T)) (t_sht T) a0 a1 a2 a3 a4 a5 a6 a7 a8 a9 mb0 mb1 oc mb2 mb3 mb4 mb5 ++ (iw_ws a7 cI 256 bf ++ (iw_ws a8 cI 64 sc ++ (iw_ws a9 cI 8 st ++ (iw_ws mb0 cI 8 kS ++ (iw_ws mb1 cI 64 kR ++ (jw_ws a2 cJ 4 tf ++ (jw_ws a0 cJ 1232 nf ++ (jw_ws a1 cJ 616 cf ++ (iw_ws a5 cI 4 sf ++ (jw_ws mb4 cJ 4 sh ++ (jw_ws mb2 cJ 4 ky ++ jw_ws a3 cJ 16 lf))))))))))))) [26, 27, 28, 29, 30, 31, 32, 33, 34, 38, 41, 36, 37] rfl
  have hDc := hD.sub (ws' := (mo_ws m0 e0 (nI (t_tn T)) (nI n) (nI (t_bc T)) (lN P) (lN Q) (lN G) (lN (ckey (t_tn T) (t_kc T) (t_kp T))) (lN (t_pa T)) (lN (t_pb T)) (t_sht T) a0 a1 a2 a3 a4 a5 a6 a7 a8 a9 mb0 mb1 oc mb2 mb3 mb4 mb5 ++ (iw_ws a7 cI 256 bf ++ (iw_ws a8 cI 64 sc ++ (iw_ws a9 cI 8 st ++ (iw_ws mb0 cI 8 kS ++ (iw_ws mb1 cI 64 kR ++ (jw_ws a2 cJ 4 tf ++ (jw_ws a0 cJ 1232 nf ++ (jw_ws a1 cJ 616 cf ++ (iw_ws a5 cI 4 sf ++ (jw_ws mb4 cJ 4 sh ++ (jw_ws mb2 cJ 4 ky ++ jw_ws a3 cJ 16 lf))))))))))))) [26, 27, 28, 29, 30, 31, 32, 33, 34, 38, 41, 36, 37] (by decide) rfl
  have hKc := hK.sub (tys' := [(cJ, .long), (cI, .int)]) [0, 1] rfl
  have hFc := va_free (wc := (mo_ws m0 e0 (nI (t_tn T)) (nI n) (nI (t_bc T)) (lN P) (lN Q) (lN G) (lN (ckey (t_tn T) (t_kc T) (t_kp T))) (lN (t_pa T)) (lN (t_pb T)) (t_sht T) a0 a1 a2 a3 a4 a5 a6 a7 a8 a9 mb0 mb1 oc mb2 mb3 mb4 mb5 ++ (iw_ws a7 cI 256 bf ++ (iw_ws a8 cI 64 sc ++ (iw_ws a9 cI 8 st ++ (iw_ws mb0 cI 8 kS ++ (iw_ws mb1 cI 64 kR ++ (jw_ws a2 cJ 4 tf ++ (jw_ws a0 cJ 1232 nf ++ (jw_ws a1 cJ 616 cf ++ (iw_ws a5 cI 4 sf ++ (jw_ws mb4 cJ 4 sh ++ (jw_ws mb2 cJ 4 ky ++ jw_ws a3 cJ 16 lf))))))))))))) hD hS hA [26, 27, 28, 29, 30, 31, 32, 33, 34, 38, 41, 36, 37] rfl
  refine va_calli (va_runV (As := [.int (nI u9.1), .long (lN (vN x2)), .long x3, .long x4]) (rest := []) ⟨hx, hb, hml, hown, hts⟩ (c_Bm_share_0 l dC dI cJ cI H.size m0 e0 (t_tn T) n (t_bc T) P Q G (ckey (t_tn T) (t_kc T) (t_kp T)) (t_pa T) (t_pb T) (t_sht T) a0 a1 a2 a3 a4 a5 a6 a7 a8 a9 mb0 mb1 oc mb2 mb3 mb4 mb5 bf sc st sf tf nf cf sh ky lf (t_so T) (t_ko T) u9.1 (vN x2) x3 x4 htn hgr hsh0 hclN hn hrs hky hpa hcl1 hI hs0 hn1 hn0 (by rw [vN_lN]; exact hh)) (cwV 4 hts (gw_V gk_1149 gk_1150 gk_1151 gk_7 gk_1152) rfl rfl rfl (by decide +kernel) ⟨(Nat.le_of_ble_eq_true rfl), (Nat.le_of_ble_eq_true rfl)⟩) ⟨fun a U g mk q => by obtain ⟨q0, q1, qP, qK, qD⟩ := q; exact ⟨q0, q1, qP, va_K.moved (u := U) (U := U.calling g mk a) (Vm.Alike.refl U.vm) qK, qD⟩, va_recv hK hP (ci := 8) (q0 := 26) rfl rfl, fun U hU hW => ⟨rfl, by rw [hU], by rw [hU]; exact hPc, va_K.moved hW.alike hKc, hDc.weaken (fun _ _ _ _ => trivial)⟩⟩ rfl rfl hl.1 rfl (lv_room (Nat.le_of_ble_eq_true rfl)) d_law_1397 ⟨show cells + 8 + 0 ≤ 601024 by omega, show slots + 48 + 0 ≤ 7293034 by omega⟩) hS (fun q _ h => hFc q h) hFc (fun r_12 v9 t9 H1 locs ht hvm hw hB hz1 hk1 hS => ?_)
  obtain ⟨hP1, hK1, hD1⟩ := hB
  rw [ht] at hP1
  obtain ⟨hP, hD⟩ := va_joinQ (X := (jw_ws out cJ 1 (vp_updL of 0 (lN n)) ++ (bb_ws b0 bd0 pr0 t0 au0 da (.ref g0) ++ (rw_ws da cJ (r8 (lN 3) (lN u9.1) x2 x3 x4 d5 d6 d7) ++ (bd_ws bd0 h0 ro lo (n + 1) cR (rrf rb) (rrf lb) ++ (pr_ws pr0 h0 cm cJ u9.2.1 ++ (hu_ws h0 aw ax ay cJ cI u9.2.2 ++ (tt_ws t0 ka aa ba sa (.ref g0) cJ (tSha P u9.1 (vN x2) T) ++ (au_ws au0 bd0 pr0 tu0 sd ++ (tt_ws tu0 uka uaa uba usa gu cJ T0 ++ (gp_ws g0 mF mE P f1 k1 Q f2 k2 G ++ (mo_ws m0 e0 (nI (t_tn T)) (nI n) (nI (t_bc T)) (lN P) (lN Q) (lN G) (lN (ckey (t_tn T) (t_kc T) (t_kp T))) (lN (t_pa T)) (lN (t_pb T)) (t_sht T) a0 a1 a2 a3 a4 a5 a6 a7 a8 a9 mb0 mb1 oc mb2 mb3 mb4 mb5 ++ (iw_ws a7 cI 256 bf ++ (iw_ws a8 cI 64 sc ++ (iw_ws a9 cI 8 st ++ (iw_ws mb0 cI 8 kS ++ (iw_ws mb1 cI 64 kR ++ (jw_ws a2 cJ 4 tf ++ (jw_ws a0 cJ 1232 nf ++ (jw_ws a1 cJ 616 cf ++ (iw_ws a4 cI 4 kf ++ (jw_ws mb2 cJ 4 ky ++ (jw_ws a3 cJ 16 lf ++ (iw_ws a5 cI 4 sf ++ (iw_ws a6 cI 64 vf ++ (jw_ws mb3 cJ 128 md ++ (jw_ws mb4 cJ 4 sh ++ iw_ws mb5 cI 64 ct))))))))))))))))))))))))))) (cx := (mo_ws m0 e0 (nI (t_tn T)) (nI n) (nI (t_bc T)) (lN P) (lN Q) (lN G) (lN (ckey (t_tn T) (t_kc T) (t_kp T))) (lN (t_pa T)) (lN (t_pb T)) (t_sht T) a0 a1 a2 a3 a4 a5 a6 a7 a8 a9 mb0 mb1 oc mb2 mb3 mb4 mb5 ++ (iw_ws a7 cI 256 bf ++ (iw_ws a8 cI 64 sc ++ (iw_ws a9 cI 8 st ++ (iw_ws mb0 cI 8 kS ++ (iw_ws mb1 cI 64 kR ++ (jw_ws a2 cJ 4 tf ++ (jw_ws a0 cJ 1232 nf ++ (jw_ws a1 cJ 616 cf ++ (iw_ws a5 cI 4 sf ++ (jw_ws mb4 cJ 4 sh ++ (jw_ws mb2 cJ 4 ky ++ jw_ws a3 cJ 16 lf))))))))))))) (wr := (jw_ws out cJ 1 (vp_updL of 0 (lN n)) ++ (bb_ws b0 bd0 pr0 t0 au0 da (.ref g0) ++ (rw_ws da cJ (r8 (lN 3) (lN u9.1) x2 x3 x4 d5 d6 d7) ++ (bd_ws bd0 h0 ro lo (n + 1) cR (rrf rb) (rrf lb) ++ (pr_ws pr0 h0 cm cJ u9.2.1 ++ (hu_ws h0 aw ax ay cJ cI u9.2.2 ++ (tt_ws t0 ka aa ba sa (.ref g0) cJ (tSha P u9.1 (vN x2) T) ++ (au_ws au0 bd0 pr0 tu0 sd ++ (tt_ws tu0 uka uaa uba usa gu cJ T0 ++ (gp_ws g0 mF mE P f1 k1 Q f2 k2 G ++ (iw_ws a4 cI 4 kf ++ (iw_ws a6 cI 64 vf ++ (jw_ws mb3 cJ 128 md ++ iw_ws mb5 cI 64 ct)))))))))))))) (w1 := (mo_ws m0 0 (nI (t_tn T)) (nI (n + 1)) (nI (t_bc T)) (lN P) (lN Q) (lN G) (lN (ckey (t_tn T) (t_kc T) (t_kp T))) (lN (t_pa T)) (lN (t_pb T)) (t_sht T) a0 a1 a2 a3 a4 a5 a6 a7 a8 a9 mb0 mb1 v9.1.2.2.2.2 mb2 mb3 mb4 mb5 ++ (iw_ws a7 cI 256 v9.1.1 ++ (iw_ws a8 cI 64 v9.1.2.1 ++ (iw_ws a9 cI 8 v9.1.2.2.1 ++ (iw_ws mb0 cI 8 kS ++ (iw_ws mb1 cI 64 kR ++ (jw_ws a2 cJ 4 v9.1.2.2.2.1 ++ (jw_ws a0 cJ 1232 (w8 nf (8 * n) (lN 3) (lN u9.1) (lN (vN x2)) x3 x4 0 0 0) ++ (jw_ws a1 cJ 616 (c4 cf (4 * n) (lkw [cf (4 * (n - 1) + 0), cf (4 * (n - 1) + 1), cf (4 * (n - 1) + 2), cf (4 * (n - 1) + 3), lN 3, lN u9.1, lN (vN x2), x3, x4])) ++ (iw_ws a5 cI 4 (upd sf u9.1 (nI n)) ++ (jw_ws mb4 cJ 4 (vp_updL sh u9.1 (lN (vN x2))) ++ (jw_ws mb2 cJ 4 ky ++ jw_ws a3 cJ 16 v9.2))))))))))))) (pl := bpool rb lb cJ (updF R n (r8 (lN 3) (lN u9.1) x2 x3 x4 d5 d6 d7)) (updF Lk n (lkw (msgL 3 n (r8 (lN 3) (lN u9.1) x2 x3 x4 d5 d6 d7) Lk)))) hP hD [26, 27, 28, 29, 30, 31, 32, 33, 34, 38, 41, 36, 37] [0, 1, 2, 3, 4, 5, 6, 7, 8, 9, 10, 11, 12, 13, 14, 15, 16, 17, 18, 19, 20, 21, 22, 23, 24, 25, 35, 39, 40, 42] rfl rfl (by decide) (by decide) hk1 hFc hP1 hD1
  have hP := hP.part (cx := (jw_ws out cJ 1 (vp_updL of 0 (lN n)) ++ (bb_ws b0 bd0 pr0 t0 au0 da (.ref g0) ++ (rw_ws da cJ (r8 (lN 3) (lN u9.1) x2 x3 x4 d5 d6 d7) ++ (bd_ws bd0 h0 ro lo (n + 1) cR (rrf rb) (rrf lb) ++ (pr_ws pr0 h0 cm cJ u9.2.1 ++ (hu_ws h0 aw ax ay cJ cI u9.2.2 ++ (tt_ws t0 ka aa ba sa (.ref g0) cJ (tSha P u9.1 (vN x2) T) ++ (au_ws au0 bd0 pr0 tu0 sd ++ (tt_ws tu0 uka uaa uba usa gu cJ T0 ++ (gp_ws g0 mF mE P f1 k1 Q f2 k2 G ++ (mo_ws m0 0 (nI (t_tn T)) (nI (n + 1)) (nI (t_bc T)) (lN P) (lN Q) (lN G) (lN (ckey (t_tn T) (t_kc T) (t_kp T))) (lN (t_pa T)) (lN (t_pb T)) (t_sht T) a0 a1 a2 a3 a4 a5 a6 a7 a8 a9 mb0 mb1 v9.1.2.2.2.2 mb2 mb3 mb4 mb5 ++ (iw_ws a7 cI 256 v9.1.1 ++ (iw_ws a8 cI 64 v9.1.2.1 ++ (iw_ws a9 cI 8 v9.1.2.2.1 ++ (iw_ws mb0 cI 8 kS ++ (iw_ws mb1 cI 64 kR ++ (jw_ws a2 cJ 4 v9.1.2.2.2.1 ++ (jw_ws a0 cJ 1232 (w8 nf (8 * n) (lN 3) (lN u9.1) (lN (vN x2)) x3 x4 0 0 0) ++ (jw_ws a1 cJ 616 (c4 cf (4 * n) (lkw [cf (4 * (n - 1) + 0), cf (4 * (n - 1) + 1), cf (4 * (n - 1) + 2), cf (4 * (n - 1) + 3), lN 3, lN u9.1, lN (vN x2), x3, x4])) ++ (iw_ws a4 cI 4 kf ++ (jw_ws mb2 cJ 4 ky ++ (jw_ws a3 cJ 16 v9.2 ++ (iw_ws a5 cI 4 (upd sf u9.1 (nI n)) ++ (iw_ws a6 cI 64 vf ++ (jw_ws mb3 cJ 128 md ++ (jw_ws mb4 cJ 4 (vp_updL sh u9.1 (lN (vN x2))) ++ iw_ws mb5 cI 64 ct))))))))))))))))))))))))))) [0, 1, 2, 3, 4, 5, 6, 7, 8, 9, 10, 11, 12, 13, 14, 15, 16, 17, 18, 19, 20, 21, 22, 23, 24, 25, 30, 31, 32, 33, 34, 35, 36, 37, 38, 26, 41, 42, 39, 27, 28, 40, 29] rfl
  have hD := hD.part (cx := (jw_ws out cJ 1 (vp_updL of 0 (lN n)) ++ (bb_ws b0 bd0 pr0 t0 au0 da (.ref g0) ++ (rw_ws da cJ (r8 (lN 3) (lN u9.1) x2 x3 x4 d5 d6 d7) ++ (bd_ws bd0 h0 ro lo (n + 1) cR (rrf rb) (rrf lb) ++ (pr_ws pr0 h0 cm cJ u9.2.1 ++ (hu_ws h0 aw ax ay cJ cI u9.2.2 ++ (tt_ws t0 ka aa ba sa (.ref g0) cJ (tSha P u9.1 (vN x2) T) ++ (au_ws au0 bd0 pr0 tu0 sd ++ (tt_ws tu0 uka uaa uba usa gu cJ T0 ++ (gp_ws g0 mF mE P f1 k1 Q f2 k2 G ++ (mo_ws m0 0 (nI (t_tn T)) (nI (n + 1)) (nI (t_bc T)) (lN P) (lN Q) (lN G) (lN (ckey (t_tn T) (t_kc T) (t_kp T))) (lN (t_pa T)) (lN (t_pb T)) (t_sht T) a0 a1 a2 a3 a4 a5 a6 a7 a8 a9 mb0 mb1 v9.1.2.2.2.2 mb2 mb3 mb4 mb5 ++ (iw_ws a7 cI 256 v9.1.1 ++ (iw_ws a8 cI 64 v9.1.2.1 ++ (iw_ws a9 cI 8 v9.1.2.2.1 ++ (iw_ws mb0 cI 8 kS ++ (iw_ws mb1 cI 64 kR ++ (jw_ws a2 cJ 4 v9.1.2.2.2.1 ++ (jw_ws a0 cJ 1232 (w8 nf (8 * n) (lN 3) (lN u9.1) (lN (vN x2)) x3 x4 0 0 0) ++ (jw_ws a1 cJ 616 (c4 cf (4 * n) (lkw [cf (4 * (n - 1) + 0), cf (4 * (n - 1) + 1), cf (4 * (n - 1) + 2), cf (4 * (n - 1) + 3), lN 3, lN u9.1, lN (vN x2), x3, x4])) ++ (iw_ws a4 cI 4 kf ++ (jw_ws mb2 cJ 4 ky ++ (jw_ws a3 cJ 16 v9.2 ++ (iw_ws a5 cI 4 (upd sf u9.1 (nI n)) ++ (iw_ws a6 cI 64 vf ++ (jw_ws mb3 cJ 128 md ++ (jw_ws mb4 cJ 4 (vp_updL sh u9.1 (lN (vN x2))) ++ iw_ws mb5 cI 64 ct))))))))))))))))))))))))))) [0, 1, 2, 3, 4, 5, 6, 7, 8, 9, 10, 11, 12, 13, 14, 15, 16, 17, 18, 19, 20, 21, 22, 23, 24, 25, 30, 31, 32, 33, 34, 35, 36, 37, 38, 26, 41, 42, 39, 27, 28, 40, 29] (by decide) rfl
  generalize H1 = H at hP hS ⊢
  clear hPc hDc hFc hP1 hD1 hK1 ht hk1 hz1
  have hr8 := hw
  subst hr8
  rw [vN_lN x2] at hP hD
  refine lv_istore (lv' := [(6, .int (nI n)), (5, .int 0), (4, .int (nI i)), (3, .ref out), (2, .ref m0), (1, .ref b0), (0, .ref b)]) hx hb d_law_1400 hl (by decide) rfl (fun ls hl => ?_)
  refine lv_aload_n hx hb d_law_1402 rfl (lv_at hl 4 rfl) ?_
  have hPc := hP.sub (ws' := (mo_ws m0 0 (nI (t_tn T)) (nI (n + 1)) (nI (t_bc T)) (lN P) (lN Q) (lN G) (lN (ckey (t_tn T) (t_kc T) (t_kp T))) (lN (t_pa T)) (lN (t_pb T)) (t_sht T) a0 a1 a2 a3 a4 a5 a6 a7 a8 a9 mb0 mb1 v9.1.2.2.2.2 mb2 mb3 mb4 mb5)) [26] rfl
  have hKc := hK.sub (tys' := [(cJ, .long), (cI, .int)]) [0, 1] rfl
  refine va_calli (va_runV (As := []) (rest := []) ⟨hx, hb, hml, hown, hts⟩ (c_Bm_thrown l H dC dI cJ cI m0 0 (nI (t_tn T)) (nI (n + 1)) (nI (t_bc T)) (lN P) (lN Q) (lN G) (lN (ckey (t_tn T) (t_kc T) (t_kp T))) (lN (t_pa T)) (lN (t_pb T)) (t_sht T) a0 a1 a2 a3 a4 a5 a6 a7 a8 a9 mb0 mb1 v9.1.2.2.2.2 mb2 mb3 mb4 mb5 hPc) (cwV 0 hts (gw_V gk_1004 gk_1005 gk_1006 gk_7 gk_1007) rfl rfl rfl (by decide +kernel) ⟨(Nat.le_of_ble_eq_true rfl), (Nat.le_of_ble_eq_true rfl)⟩) ⟨fun a U g mk q => ⟨q.1, q.2.1, va_K.moved (u := U) (U := U.calling g mk a) (Vm.Alike.refl U.vm) q.2.2⟩, va_recv hK hP (ci := 8) (q0 := 26) rfl rfl, fun U hU hW => ⟨rfl, hU, va_K.moved hW.alike hKc⟩⟩ rfl rfl hl.1 rfl (lv_room (Nat.le_of_ble_eq_true rfl)) d_law_1403 ⟨show cells + 8 + 0 + 0 ≤ 601024 by omega, show slots + 48 + 0 + 0 ≤ 7293034 by omega⟩) hS (fun q _ h => h.elim) (fun q h => h.elim) (fun r_13 w9 t9 H1 locs ht hvm hw9 hB hz1 hk1 hS => ?_)
  obtain rfl : H = H1 := hB.symm.trans ht
  have hw9 : r_13 = 0 := hw9
  subst hw9
  clear hPc hz1 hk1 hB
  refine lv_iload hx hb d_law_1406 (lv_at hl 1 rfl) ?_
  refine lv_icmp_eq (tgt := 1413) hx hb d_law_1408 (by decide) (fun c_14 => ?_) (fun c_14 => ?_)
  · -- taken
    refine lv_iload hx hb d_law_1413 (lv_at hl 1 rfl) ?_
    refine lv_if_ne (tgt := 1430) hx hb d_law_1415 (by decide) (fun c_15 => ?_) (fun c_15 => ?_)
    · -- taken
      exact absurd rfl c_15
    · -- not taken
      refine lv_aload_n hx hb d_law_1418 rfl (lv_at hl 3 rfl) ?_
      refine lv_iconst (v := 0) hx hb d_law_1419 (by decide) ?_
      refine va_lald hx hb hK hP 0 0 rfl rfl (vp_lit rfl) d_law_1420 ?_
      refine lv_topl (fun v_16 ev_16 => ?_)
      obtain rfl : v_16 = lN n := ev_16.trans rfl
      refine lv_iload hx hb d_law_1421 (lv_at hl 0 rfl) ?_
      refine lv_i2l (v := (nI n : Int32).toInt64) hx hb d_law_1423 rfl ?_
      refine W.lcmp hx hb d_law_1424 ?_
      refine lv_if_eq (tgt := 1430) hx hb d_law_1425 (by decide) (fun c_17 => ?_) (fun c_17 => ?_)
      · -- taken
        refine lv_goto (tgt := 1965) hx hb d_law_1430 (by decide) ?_
        refine W.widen (k := cells + 20) (n := slots + 200) (by omega) (by omega) ?_
        have hI9 : LI dC dI cJ cI cR A out b0 m0 H := LG.mk hP hD (rel_sha hR hI hcl1 hs0 hh d5 d6 d7 (congrArg lkw (msg5 hn0 (by decide) hcfR)))
        exact cont _ _ _ hS hI9 (lv_sub hl [2, 3, 4, 5, 6] rfl)
      · -- not taken
        exact absurd (lgc (nI_l (by omega)).symm) c_17
  · -- not taken
    exact absurd c_14 (by decide)
