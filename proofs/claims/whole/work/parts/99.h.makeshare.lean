theorem d_law_1433 : decode code 1433 = .ok (.aload_n 1, 1) := by decide +kernel
theorem d_law_1434 : decode code 1434 = .ok (.aload_n 0, 1) := by decide +kernel
theorem d_law_1435 : decode code 1435 = .ok (.iload 4, 2) := by decide +kernel
theorem d_law_1437 : decode code 1437 = .ok (.iconst 1, 1) := by decide +kernel
theorem d_law_1438 : decode code 1438 = .ok (.iadd, 1) := by decide +kernel
theorem d_law_1439 : decode code 1439 = .ok (.iaload, 1) := by decide +kernel
theorem d_law_1440 : decode code 1440 = .ok (.aload_n 0, 1) := by decide +kernel
theorem d_law_1441 : decode code 1441 = .ok (.iload 4, 2) := by decide +kernel
theorem d_law_1443 : decode code 1443 = .ok (.iconst 2, 1) := by decide +kernel
theorem d_law_1444 : decode code 1444 = .ok (.iadd, 1) := by decide +kernel
theorem d_law_1445 : decode code 1445 = .ok (.iaload, 1) := by decide +kernel
theorem d_law_1446 : decode code 1446 = .ok (.i2l, 1) := by decide +kernel
theorem d_law_1447 : decode code 1447 = .ok (.bipush 32, 2) := by decide +kernel
theorem d_law_1449 : decode code 1449 = .ok (.lshl, 1) := by decide +kernel
theorem d_law_1450 : decode code 1450 = .ok (.aload_n 0, 1) := by decide +kernel
theorem d_law_1451 : decode code 1451 = .ok (.iload 4, 2) := by decide +kernel
theorem d_law_1453 : decode code 1453 = .ok (.iconst 3, 1) := by decide +kernel
theorem d_law_1454 : decode code 1454 = .ok (.iadd, 1) := by decide +kernel
theorem d_law_1455 : decode code 1455 = .ok (.iaload, 1) := by decide +kernel
theorem d_law_1456 : decode code 1456 = .ok (.i2l, 1) := by decide +kernel
theorem d_law_1457 : decode code 1457 = .ok (.ldc2_w 70, 3) := by decide +kernel
theorem d_law_1460 : decode code 1460 = .ok (.land, 1) := by decide +kernel
theorem d_law_1461 : decode code 1461 = .ok (.lor, 1) := by decide +kernel
theorem d_law_1462 : decode code 1462 = .ok (.aload_n 0, 1) := by decide +kernel
theorem d_law_1463 : decode code 1463 = .ok (.iload 4, 2) := by decide +kernel
theorem d_law_1465 : decode code 1465 = .ok (.iconst 4, 1) := by decide +kernel
theorem d_law_1466 : decode code 1466 = .ok (.iadd, 1) := by decide +kernel
theorem d_law_1467 : decode code 1467 = .ok (.iaload, 1) := by decide +kernel
theorem d_law_1468 : decode code 1468 = .ok (.i2l, 1) := by decide +kernel
theorem d_law_1469 : decode code 1469 = .ok (.bipush 32, 2) := by decide +kernel
theorem d_law_1471 : decode code 1471 = .ok (.lshl, 1) := by decide +kernel
theorem d_law_1472 : decode code 1472 = .ok (.aload_n 0, 1) := by decide +kernel
theorem d_law_1473 : decode code 1473 = .ok (.iload 4, 2) := by decide +kernel
theorem d_law_1475 : decode code 1475 = .ok (.iconst 5, 1) := by decide +kernel
theorem d_law_1476 : decode code 1476 = .ok (.iadd, 1) := by decide +kernel
theorem d_law_1477 : decode code 1477 = .ok (.iaload, 1) := by decide +kernel
theorem d_law_1478 : decode code 1478 = .ok (.i2l, 1) := by decide +kernel
theorem d_law_1479 : decode code 1479 = .ok (.ldc2_w 70, 3) := by decide +kernel
theorem d_law_1482 : decode code 1482 = .ok (.land, 1) := by decide +kernel
theorem d_law_1483 : decode code 1483 = .ok (.lor, 1) := by decide +kernel
theorem d_law_1484 : decode code 1484 = .ok (.aload_n 3, 1) := by decide +kernel
theorem d_law_1485 : decode code 1485 = .ok (.invokestatic 104, 3) := by decide +kernel
theorem d_law_1488 : decode code 1488 = .ok (.istore 5, 2) := by decide +kernel
theorem d_law_1490 : decode code 1490 = .ok (.aload_n 2, 1) := by decide +kernel
theorem d_law_1491 : decode code 1491 = .ok (.aload_n 0, 1) := by decide +kernel
theorem d_law_1492 : decode code 1492 = .ok (.iload 4, 2) := by decide +kernel
theorem d_law_1494 : decode code 1494 = .ok (.iconst 1, 1) := by decide +kernel
theorem d_law_1495 : decode code 1495 = .ok (.iadd, 1) := by decide +kernel
theorem d_law_1496 : decode code 1496 = .ok (.iaload, 1) := by decide +kernel
theorem d_law_1497 : decode code 1497 = .ok (.aload_n 0, 1) := by decide +kernel
theorem d_law_1498 : decode code 1498 = .ok (.iload 4, 2) := by decide +kernel
theorem d_law_1500 : decode code 1500 = .ok (.iconst 2, 1) := by decide +kernel
theorem d_law_1501 : decode code 1501 = .ok (.iadd, 1) := by decide +kernel
theorem d_law_1502 : decode code 1502 = .ok (.iaload, 1) := by decide +kernel
theorem d_law_1503 : decode code 1503 = .ok (.i2l, 1) := by decide +kernel
theorem d_law_1504 : decode code 1504 = .ok (.bipush 32, 2) := by decide +kernel
theorem d_law_1506 : decode code 1506 = .ok (.lshl, 1) := by decide +kernel
theorem d_law_1507 : decode code 1507 = .ok (.aload_n 0, 1) := by decide +kernel
theorem d_law_1508 : decode code 1508 = .ok (.iload 4, 2) := by decide +kernel
theorem d_law_1510 : decode code 1510 = .ok (.iconst 3, 1) := by decide +kernel
theorem d_law_1511 : decode code 1511 = .ok (.iadd, 1) := by decide +kernel
theorem d_law_1512 : decode code 1512 = .ok (.iaload, 1) := by decide +kernel
theorem d_law_1513 : decode code 1513 = .ok (.i2l, 1) := by decide +kernel
theorem d_law_1514 : decode code 1514 = .ok (.ldc2_w 70, 3) := by decide +kernel
theorem d_law_1517 : decode code 1517 = .ok (.land, 1) := by decide +kernel
theorem d_law_1518 : decode code 1518 = .ok (.lor, 1) := by decide +kernel
theorem d_law_1519 : decode code 1519 = .ok (.aload_n 0, 1) := by decide +kernel
theorem d_law_1520 : decode code 1520 = .ok (.iload 4, 2) := by decide +kernel
theorem d_law_1522 : decode code 1522 = .ok (.iconst 4, 1) := by decide +kernel
theorem d_law_1523 : decode code 1523 = .ok (.iadd, 1) := by decide +kernel
theorem d_law_1524 : decode code 1524 = .ok (.iaload, 1) := by decide +kernel
theorem d_law_1525 : decode code 1525 = .ok (.i2l, 1) := by decide +kernel
theorem d_law_1526 : decode code 1526 = .ok (.bipush 32, 2) := by decide +kernel
theorem d_law_1528 : decode code 1528 = .ok (.lshl, 1) := by decide +kernel
theorem d_law_1529 : decode code 1529 = .ok (.aload_n 0, 1) := by decide +kernel
theorem d_law_1530 : decode code 1530 = .ok (.iload 4, 2) := by decide +kernel
theorem d_law_1532 : decode code 1532 = .ok (.iconst 5, 1) := by decide +kernel
theorem d_law_1533 : decode code 1533 = .ok (.iadd, 1) := by decide +kernel
theorem d_law_1534 : decode code 1534 = .ok (.iaload, 1) := by decide +kernel
theorem d_law_1535 : decode code 1535 = .ok (.i2l, 1) := by decide +kernel
theorem d_law_1536 : decode code 1536 = .ok (.ldc2_w 70, 3) := by decide +kernel
theorem d_law_1539 : decode code 1539 = .ok (.land, 1) := by decide +kernel
theorem d_law_1540 : decode code 1540 = .ok (.lor, 1) := by decide +kernel
theorem d_law_1541 : decode code 1541 = .ok (.invokevirtual 106, 3) := by decide +kernel
theorem d_law_1544 : decode code 1544 = .ok (.istore 6, 2) := by decide +kernel
theorem d_law_1546 : decode code 1546 = .ok (.aload_n 2, 1) := by decide +kernel
theorem d_law_1547 : decode code 1547 = .ok (.invokevirtual 78, 3) := by decide +kernel
theorem d_law_1550 : decode code 1550 = .ok (.iload 5, 2) := by decide +kernel
theorem d_law_1552 : decode code 1552 = .ok (.if_icmp .eq 5, 3) := by decide +kernel
theorem d_law_1555 : decode code 1555 = .ok (.iconst 0, 1) := by decide +kernel
theorem d_law_1556 : decode code 1556 = .ok (.ireturn, 1) := by decide +kernel
theorem d_law_1557 : decode code 1557 = .ok (.iload 5, 2) := by decide +kernel
theorem d_law_1559 : decode code 1559 = .ok (.ifCond .ne 15, 3) := by decide +kernel
theorem d_law_1562 : decode code 1562 = .ok (.aload_n 3, 1) := by decide +kernel
theorem d_law_1563 : decode code 1563 = .ok (.iconst 0, 1) := by decide +kernel
theorem d_law_1564 : decode code 1564 = .ok (.laload, 1) := by decide +kernel
theorem d_law_1565 : decode code 1565 = .ok (.iload 6, 2) := by decide +kernel
theorem d_law_1567 : decode code 1567 = .ok (.i2l, 1) := by decide +kernel
theorem d_law_1568 : decode code 1568 = .ok (.lcmp, 1) := by decide +kernel
theorem d_law_1569 : decode code 1569 = .ok (.ifCond .eq 5, 3) := by decide +kernel
theorem d_law_1572 : decode code 1572 = .ok (.iconst 0, 1) := by decide +kernel
theorem d_law_1573 : decode code 1573 = .ok (.ireturn, 1) := by decide +kernel
theorem d_law_1574 : decode code 1574 = .ok (.goto 391, 3) := by decide +kernel
set_option maxHeartbeats 16000000 in
set_option maxRecDepth 100000 in
theorem bk_makeShare_g {p : Program} {l : Launch} {e : Env} {s : State} {m : MethodId} {below : List Frame} {meth : Method} {c : Code} {b L : Nat} {xs : Nat → Int32} {dC : Nat → ClassId} {dI : Nat → Nat → Nat} {cJ cI cR : ClassId} {A : Nat → Prop} {out b0 m0 : Nat} {rA sA wA : Nat} (C : LC p l s m meth c b L xs dC dI cJ cI cR A rA sA wA) {i cells slots : Nat} (hi : i + 14 ≤ L) (hcs : cells + 20 ≤ 601024 ∧ slots + 200 ≤ 7293034) (cont : LK p l e s m below meth c b dC dI cJ cI cR A out b0 m0 i (cells + 20) (slots + 200) 1965) {H : Heap} {locs : List Loc} {ls : Array Slot} (hS : va_S A s.heap H locs) (hI : LG dC dI cJ cI cR A out b0 m0 H) (hl : lv_has ls 8 [(4, .int (nI i)), (3, .ref out), (2, .ref m0), (1, .ref b0), (0, .ref b)]) : W p l e room_1 s m #[Value.ref b] below meth c H locs cells slots (lw_Z below #[Value.ref b] s) (F0 m 1433 ls []) := by
  obtain ⟨hnt, ⟨hx, hb, hr, hml, hown, hts0, hX, hbl, hlocks, hgv⟩, hK, hA, hbA, hZha, hZx, hZn, hZw, hL⟩ := C
  have hown : s.vm.findClass "BallotBoardLaw" = some m.cls := hown
  have hts := lw_hts hts0
  refine hI _ (fun bd0 pr0 t0 au0 da h0 ro lo rb lb cm aw ax ay ka aa ba sa tu0 uka uaa uba usa a0 a1 a2 a3 a4 a5 a6 a7 a8 a9 mb0 mb1 oc mb2 mb3 mb4 mb5 cL of w tf nf cf ky lf md sh ccf csc cst bf sc st kf sf vf ct gu d0 d1 d2 d3 d4 d5 d6 d7 e0 R Lk g0 mF mE P f1 k1 Q f2 k2 G N n sd bc al pa pb cl T T0 kd wh hP hD hR => ?_)
  have q1 := hR.1.2.2.2.1.1
  subst q1
  have q2 := hR.2.2.2.1.1
  subst q2
  have q3 := hR.2.2.2.1.2.1
  subst q3
  have q4 := hR.2.2.2.1.2.2.1
  subst q4
  have q5 := hR.2.2.2.1.2.2.2.1
  subst q5
  have q6 := hR.2.2.2.1.2.2.2.2.1
  subst q6
  obtain ⟨⟨hok, htok, hN0, htn, hkc, hn⟩, ⟨hnO, hnS, hn0S, hn0B, hbc, hsc, hsh0⟩, ⟨hgr, hrk, hrs, hrb, hko, hkP⟩, ⟨hal, hclN, hky, hpa, hmd, haP, hbP⟩, ⟨hsP, hsp, hpb, hwf, hEI, hnfR, hcfR, hkf⟩, ⟨hnfk, hkq, hsd, hsn, hsdd, h0k, hkca⟩, ⟨hPQ, h61F, hQ3, hG2, hGP, hGQ⟩, hTt, hTt0, hRT⟩ := LG_facts hR
  obtain ⟨x1, hx1⟩ : ∃ v, v = xs (i + 1) := ⟨_, rfl⟩
  obtain ⟨x2, hx2⟩ : ∃ v, v = jl (xs (i + 2)) (xs (i + 3)) := ⟨_, rfl⟩
  obtain ⟨x3, hx3⟩ : ∃ v, v = jl (xs (i + 4)) (xs (i + 5)) := ⟨_, rfl⟩
  by_cases hC1 : sC1 T x1
  · -- it holds
    refine lv_aload_n hx hb d_law_1433 rfl (lv_at hl 3 rfl) ?_
    refine lv_aload_n hx hb d_law_1434 rfl (lv_at hl 4 rfl) ?_
    refine lv_iload hx hb d_law_1435 (lv_at hl 0 rfl) ?_
    refine lv_iconst (v := 1) hx hb d_law_1437 (by decide) ?_
    refine lv_iadd hx hb d_law_1438 ?_
    rw [show ((nI i) + 1 : Int32) = nI (i + 1) from nI_add _ 1]
    refine va_sld hx hb hX hbl hbA hS (vp_in_nI (by omega) (by omega)) d_law_1439 ?_
    rw [show (xs (nI (i + 1)).toNatClampNeg : Int32) = xs (i + 1) from by rw [nI_clamp (by omega)]]
    rw [show (xs (i + 1) : Int32) = x1 from hx1.symm]
    refine lv_aload_n hx hb d_law_1440 rfl (lv_at hl 4 rfl) ?_
    refine lv_iload hx hb d_law_1441 (lv_at hl 0 rfl) ?_
    refine lv_iconst (v := 2) hx hb d_law_1443 (by decide) ?_
    refine lv_iadd hx hb d_law_1444 ?_
    rw [show ((nI i) + 2 : Int32) = nI (i + 2) from nI_add _ 2]
    refine va_sld hx hb hX hbl hbA hS (vp_in_nI (by omega) (by omega)) d_law_1445 ?_
    rw [show (xs (nI (i + 2)).toNatClampNeg : Int32) = xs (i + 2) from by rw [nI_clamp (by omega)]]
    refine lv_i2l (v := (xs (i + 2) : Int32).toInt64) hx hb d_law_1446 rfl ?_
    refine lv_bipush (v := 32) hx hb d_law_1447 (by decide) ?_
    refine lv_lshl (v := ((xs (i + 2) : Int32).toInt64 : Int64) <<< ((32 : Int32).toInt64 &&& 63)) hx hb d_law_1449 rfl ?_
    refine lv_aload_n hx hb d_law_1450 rfl (lv_at hl 4 rfl) ?_
    refine lv_iload hx hb d_law_1451 (lv_at hl 0 rfl) ?_
    refine lv_iconst (v := 3) hx hb d_law_1453 (by decide) ?_
    refine lv_iadd hx hb d_law_1454 ?_
    rw [show ((nI i) + 3 : Int32) = nI (i + 3) from nI_add _ 3]
    refine va_sld hx hb hX hbl hbA hS (vp_in_nI (by omega) (by omega)) d_law_1455 ?_
    rw [show (xs (nI (i + 3)).toNatClampNeg : Int32) = xs (i + 3) from by rw [nI_clamp (by omega)]]
    refine lv_i2l (v := (xs (i + 3) : Int32).toInt64) hx hb d_law_1456 rfl ?_
    refine lv_ldc2 (v := 4294967295) hx hb hown (hts _ (List.mem_cons_of_mem _ gk_1202)) d_law_1457 ?_
    refine lv_land hx hb d_law_1460 ?_
    refine lv_lor hx hb d_law_1461 ?_
    rw [show ((((xs (i + 2) : Int32).toInt64 : Int64) <<< ((32 : Int32).toInt64 &&& 63)) ||| (((xs (i + 3) : Int32).toInt64) &&& 4294967295) : Int64) = x2 from hx2.symm]
    refine lv_aload_n hx hb d_law_1462 rfl (lv_at hl 4 rfl) ?_
    refine lv_iload hx hb d_law_1463 (lv_at hl 0 rfl) ?_
    refine lv_iconst (v := 4) hx hb d_law_1465 (by decide) ?_
    refine lv_iadd hx hb d_law_1466 ?_
    rw [show ((nI i) + 4 : Int32) = nI (i + 4) from nI_add _ 4]
    refine va_sld hx hb hX hbl hbA hS (vp_in_nI (by omega) (by omega)) d_law_1467 ?_
    rw [show (xs (nI (i + 4)).toNatClampNeg : Int32) = xs (i + 4) from by rw [nI_clamp (by omega)]]
    refine lv_i2l (v := (xs (i + 4) : Int32).toInt64) hx hb d_law_1468 rfl ?_
    refine lv_bipush (v := 32) hx hb d_law_1469 (by decide) ?_
    refine lv_lshl (v := ((xs (i + 4) : Int32).toInt64 : Int64) <<< ((32 : Int32).toInt64 &&& 63)) hx hb d_law_1471 rfl ?_
    refine lv_aload_n hx hb d_law_1472 rfl (lv_at hl 4 rfl) ?_
    refine lv_iload hx hb d_law_1473 (lv_at hl 0 rfl) ?_
    refine lv_iconst (v := 5) hx hb d_law_1475 (by decide) ?_
    refine lv_iadd hx hb d_law_1476 ?_
    rw [show ((nI i) + 5 : Int32) = nI (i + 5) from nI_add _ 5]
    refine va_sld hx hb hX hbl hbA hS (vp_in_nI (by omega) (by omega)) d_law_1477 ?_
    rw [show (xs (nI (i + 5)).toNatClampNeg : Int32) = xs (i + 5) from by rw [nI_clamp (by omega)]]
    refine lv_i2l (v := (xs (i + 5) : Int32).toInt64) hx hb d_law_1478 rfl ?_
    refine lv_ldc2 (v := 4294967295) hx hb hown (hts _ (List.mem_cons_of_mem _ gk_1202)) d_law_1479 ?_
    refine lv_land hx hb d_law_1482 ?_
    refine lv_lor hx hb d_law_1483 ?_
    rw [show ((((xs (i + 4) : Int32).toInt64 : Int64) <<< ((32 : Int32).toInt64 &&& 63)) ||| (((xs (i + 5) : Int32).toInt64) &&& 4294967295) : Int64) = x3 from hx3.symm]
    refine lv_aload_n hx hb d_law_1484 rfl (lv_at hl 1 rfl) ?_
    have hPc := hP.part (cx := (jw_ws out cJ 1 of ++ (bb_ws b0 bd0 pr0 t0 au0 da (.ref g0) ++ (rw_ws da cJ (r8 d0 d1 d2 d3 d4 d5 d6 d7) ++ (bd_ws bd0 h0 ro lo n cR (rrf rb) (rrf lb) ++ (pr_ws pr0 h0 cm cJ ccf ++ (ha_ws h0 aw ax ay cJ cI w csc cst cL ++ (tt_ws t0 ka aa ba sa (.ref g0) cJ T ++ gp_ws g0 mF mE P f1 k1 Q f2 k2 G)))))))) [0, 1, 2, 3, 4, 5, 6, 7, 8, 9, 10, 11, 12, 13, 14, 15, 16, 23, 24, 25] rfl
    have hDc := hD.part (cx := (jw_ws out cJ 1 of ++ (bb_ws b0 bd0 pr0 t0 au0 da (.ref g0) ++ (rw_ws da cJ (r8 d0 d1 d2 d3 d4 d5 d6 d7) ++ (bd_ws bd0 h0 ro lo n cR (rrf rb) (rrf lb) ++ (pr_ws pr0 h0 cm cJ ccf ++ (ha_ws h0 aw ax ay cJ cI w csc cst cL ++ (tt_ws t0 ka aa ba sa (.ref g0) cJ T ++ gp_ws g0 mF mE P f1 k1 Q f2 k2 G)))))))) [0, 1, 2, 3, 4, 5, 6, 7, 8, 9, 10, 11, 12, 13, 14, 15, 16, 23, 24, 25] (by decide) rfl
    have hKc := hK.sub (tys' := [(cJ, .long), (cI, .int), (cR, .array .long)]) [0, 1, 2] rfl
    have hFc := va_freeP (cx := (jw_ws out cJ 1 of ++ (bb_ws b0 bd0 pr0 t0 au0 da (.ref g0) ++ (rw_ws da cJ (r8 d0 d1 d2 d3 d4 d5 d6 d7) ++ (bd_ws bd0 h0 ro lo n cR (rrf rb) (rrf lb) ++ (pr_ws pr0 h0 cm cJ ccf ++ (ha_ws h0 aw ax ay cJ cI w csc cst cL ++ (tt_ws t0 ka aa ba sa (.ref g0) cJ T ++ gp_ws g0 mF mE P f1 k1 Q f2 k2 G)))))))) hD hS hA [0, 1, 2, 3, 4, 5, 6, 7, 8, 9, 10, 11, 12, 13, 14, 15, 16, 23, 24, 25] rfl
    have hZc0 : ha_Z rA sA (va_A ((jw_ws out cJ 1 of ++ (bb_ws b0 bd0 pr0 t0 au0 da (.ref g0) ++ (rw_ws da cJ (r8 d0 d1 d2 d3 d4 d5 d6 d7) ++ (bd_ws bd0 h0 ro lo n cR (rrf rb) (rrf lb) ++ (pr_ws pr0 h0 cm cJ ccf ++ (ha_ws h0 aw ax ay cJ cI w csc cst cL ++ (tt_ws t0 ka aa ba sa (.ref g0) cJ T ++ gp_ws g0 mF mE P f1 k1 Q f2 k2 G))))))) ++ bpool rb lb cJ R Lk) H.size) s H := (hZha.kept hS.2.1).narrow hFc
    have hZc1 : xz (va_A ((jw_ws out cJ 1 of ++ (bb_ws b0 bd0 pr0 t0 au0 da (.ref g0) ++ (rw_ws da cJ (r8 d0 d1 d2 d3 d4 d5 d6 d7) ++ (bd_ws bd0 h0 ro lo n cR (rrf rb) (rrf lb) ++ (pr_ws pr0 h0 cm cJ ccf ++ (ha_ws h0 aw ax ay cJ cI w csc cst cL ++ (tt_ws t0 ka aa ba sa (.ref g0) cJ T ++ gp_ws g0 mF mE P f1 k1 Q f2 k2 G))))))) ++ bpool rb lb cJ R Lk) H.size) s H := (hZx.kept hS.2.1).narrow hFc
    have hZc2 : nc_Z s := hZn
    refine vx_calli (vx_runSX (hh := h_Lw_makeShare) (As := [.ref b0, .int x1, .long x2, .long x3, .ref out]) (rest := []) ⟨hx, hb, hml, hown, hts⟩ (c_Lw_makeShare_1 l hnt dC dI cJ cI cR H.size b0 bd0 pr0 t0 au0 da h0 ro lo n rb lb cm ccf aw ax ay w csc cst cL ka aa ba sa T g0 mF mE P f1 k1 Q f2 k2 G rA sA R Lk d0 d1 d2 d3 d4 d5 d6 d7 x1 x2 x3 out of hok htok hN0 htn hkc hn hnS hn0S hC1) (vx_cwSW 5 hts (gw_Sv gk_723 gk_724 gk_0 gk_725) rfl rfl rfl (by decide +kernel) ⟨(Nat.le_of_ble_eq_true rfl), (Nat.le_of_ble_eq_true rfl)⟩) ⟨fun a U g mk q => by obtain ⟨q0, q1, qP, qK, qD, qZ0, qZ1, qZ2⟩ := q; exact ⟨q0, q1, qP, va_K.moved (u := U) (U := U.calling g mk a) (Vm.Alike.refl U.vm) qK, qD, ha_Z.moved (u := U) (U := U.calling g mk a) (Vm.Alike.refl U.vm) qZ0, xz.same (u := U) (U := U.calling g mk a) rfl qZ1, nc_Z.moved (u := U) (U := U.calling g mk a) (Vm.Alike.refl U.vm) qZ2⟩, fun U hU hW => ⟨rfl, by rw [hU], by rw [hU]; exact hPc, va_K.moved hW.alike hKc, hDc.weaken (fun _ _ _ _ => trivial), by rw [hU]; exact ha_Z.moved hW.alike hZc0, by rw [hU]; exact xz.warm hW hZc1, nc_Z.moved hW.alike hZc2⟩⟩ rfl rfl hl.1 rfl (lv_room (Nat.le_of_ble_eq_true rfl)) d_law_1485 ⟨show cells + 8 ≤ 601024 by omega, show slots + 48 ≤ 7293034 by omega⟩) hS (fun q _ h => hFc q h) hFc (fun q _ h => hFc q h) (fun E9 ce9 q9 u8 t9 H1 locs ht hvm hpx hbx hz1 hk1 hS hce hcv hcl => hpx.elim) (fun r_1 u9 t9 H1 locs ht hvm hw hB hz1 hk1 hS => ?_)
    obtain ⟨hP1, hK1, hD1⟩ := hB
    rw [ht] at hP1
    obtain ⟨hP, hD⟩ := va_joinP (X := (jw_ws out cJ 1 of ++ (bb_ws b0 bd0 pr0 t0 au0 da (.ref g0) ++ (rw_ws da cJ (r8 d0 d1 d2 d3 d4 d5 d6 d7) ++ (bd_ws bd0 h0 ro lo n cR (rrf rb) (rrf lb) ++ (pr_ws pr0 h0 cm cJ ccf ++ (ha_ws h0 aw ax ay cJ cI w csc cst cL ++ (tt_ws t0 ka aa ba sa (.ref g0) cJ T ++ (au_ws au0 bd0 pr0 tu0 sd ++ (tt_ws tu0 uka uaa uba usa gu cJ T0 ++ (gp_ws g0 mF mE P f1 k1 Q f2 k2 G ++ (mo_ws m0 e0 (nI (t_tn T)) (nI n) (nI (t_bc T)) (lN P) (lN Q) (lN G) (lN (ckey (t_tn T) (t_kc T) (t_kp T))) (lN (t_pa T)) (lN (t_pb T)) (t_sht T) a0 a1 a2 a3 a4 a5 a6 a7 a8 a9 mb0 mb1 oc mb2 mb3 mb4 mb5 ++ (iw_ws a7 cI 256 bf ++ (iw_ws a8 cI 64 sc ++ (iw_ws a9 cI 8 st ++ (iw_ws mb0 cI 8 kS ++ (iw_ws mb1 cI 64 kR ++ (jw_ws a2 cJ 4 tf ++ (jw_ws a0 cJ 1232 nf ++ (jw_ws a1 cJ 616 cf ++ (iw_ws a4 cI 4 kf ++ (jw_ws mb2 cJ 4 ky ++ (jw_ws a3 cJ 16 lf ++ (iw_ws a5 cI 4 sf ++ (iw_ws a6 cI 64 vf ++ (jw_ws mb3 cJ 128 md ++ (jw_ws mb4 cJ 4 sh ++ iw_ws mb5 cI 64 ct))))))))))))))))))))))))))) (cx := (jw_ws out cJ 1 of ++ (bb_ws b0 bd0 pr0 t0 au0 da (.ref g0) ++ (rw_ws da cJ (r8 d0 d1 d2 d3 d4 d5 d6 d7) ++ (bd_ws bd0 h0 ro lo n cR (rrf rb) (rrf lb) ++ (pr_ws pr0 h0 cm cJ ccf ++ (ha_ws h0 aw ax ay cJ cI w csc cst cL ++ (tt_ws t0 ka aa ba sa (.ref g0) cJ T ++ gp_ws g0 mF mE P f1 k1 Q f2 k2 G)))))))) (wr := (au_ws au0 bd0 pr0 tu0 sd ++ (tt_ws tu0 uka uaa uba usa gu cJ T0 ++ (mo_ws m0 e0 (nI (t_tn T)) (nI n) (nI (t_bc T)) (lN P) (lN Q) (lN G) (lN (ckey (t_tn T) (t_kc T) (t_kp T))) (lN (t_pa T)) (lN (t_pb T)) (t_sht T) a0 a1 a2 a3 a4 a5 a6 a7 a8 a9 mb0 mb1 oc mb2 mb3 mb4 mb5 ++ (iw_ws a7 cI 256 bf ++ (iw_ws a8 cI 64 sc ++ (iw_ws a9 cI 8 st ++ (iw_ws mb0 cI 8 kS ++ (iw_ws mb1 cI 64 kR ++ (jw_ws a2 cJ 4 tf ++ (jw_ws a0 cJ 1232 nf ++ (jw_ws a1 cJ 616 cf ++ (iw_ws a4 cI 4 kf ++ (jw_ws mb2 cJ 4 ky ++ (jw_ws a3 cJ 16 lf ++ (iw_ws a5 cI 4 sf ++ (iw_ws a6 cI 64 vf ++ (jw_ws mb3 cJ 128 md ++ (jw_ws mb4 cJ 4 sh ++ iw_ws mb5 cI 64 ct))))))))))))))))))) (rx := (jw_ws out cJ 1 of ++ (bb_ws b0 bd0 pr0 t0 au0 da (.ref g0) ++ (rw_ws da cJ (r8 u9.1.1 u9.1.2.1 u9.1.2.2.1 u9.1.2.2.2.1 u9.1.2.2.2.2.1 u9.1.2.2.2.2.2.1 u9.1.2.2.2.2.2.2.1 u9.1.2.2.2.2.2.2.2) ++ (bd_ws bd0 h0 ro lo n cR (rrf rb) (rrf lb) ++ (pr_ws pr0 h0 cm cJ u9.2.1 ++ (hu_ws h0 aw ax ay cJ cI u9.2.2 ++ (tt_ws t0 ka aa ba sa (.ref g0) cJ T ++ gp_ws g0 mF mE P f1 k1 Q f2 k2 G)))))))) (pl := bpool rb lb cJ R Lk) (pl1 := bpool rb lb cJ R Lk) hP hD [0, 1, 2, 3, 4, 5, 6, 7, 8, 9, 10, 11, 12, 13, 14, 15, 16, 23, 24, 25] [17, 18, 19, 20, 21, 22, 26, 27, 28, 29, 30, 31, 32, 33, 34, 35, 36, 37, 38, 39, 40, 41, 42] rfl rfl (by decide) (by decide) hk1 hFc hP1 hD1
    have hP := hP.part (cx := (jw_ws out cJ 1 of ++ (bb_ws b0 bd0 pr0 t0 au0 da (.ref g0) ++ (rw_ws da cJ (r8 u9.1.1 u9.1.2.1 u9.1.2.2.1 u9.1.2.2.2.1 u9.1.2.2.2.2.1 u9.1.2.2.2.2.2.1 u9.1.2.2.2.2.2.2.1 u9.1.2.2.2.2.2.2.2) ++ (bd_ws bd0 h0 ro lo n cR (rrf rb) (rrf lb) ++ (pr_ws pr0 h0 cm cJ u9.2.1 ++ (hu_ws h0 aw ax ay cJ cI u9.2.2 ++ (tt_ws t0 ka aa ba sa (.ref g0) cJ T ++ (au_ws au0 bd0 pr0 tu0 sd ++ (tt_ws tu0 uka uaa uba usa gu cJ T0 ++ (gp_ws g0 mF mE P f1 k1 Q f2 k2 G ++ (mo_ws m0 e0 (nI (t_tn T)) (nI n) (nI (t_bc T)) (lN P) (lN Q) (lN G) (lN (ckey (t_tn T) (t_kc T) (t_kp T))) (lN (t_pa T)) (lN (t_pb T)) (t_sht T) a0 a1 a2 a3 a4 a5 a6 a7 a8 a9 mb0 mb1 oc mb2 mb3 mb4 mb5 ++ (iw_ws a7 cI 256 bf ++ (iw_ws a8 cI 64 sc ++ (iw_ws a9 cI 8 st ++ (iw_ws mb0 cI 8 kS ++ (iw_ws mb1 cI 64 kR ++ (jw_ws a2 cJ 4 tf ++ (jw_ws a0 cJ 1232 nf ++ (jw_ws a1 cJ 616 cf ++ (iw_ws a4 cI 4 kf ++ (jw_ws mb2 cJ 4 ky ++ (jw_ws a3 cJ 16 lf ++ (iw_ws a5 cI 4 sf ++ (iw_ws a6 cI 64 vf ++ (jw_ws mb3 cJ 128 md ++ (jw_ws mb4 cJ 4 sh ++ iw_ws mb5 cI 64 ct))))))))))))))))))))))))))) [23, 24, 25, 26, 27, 28, 29, 30, 31, 32, 33, 34, 35, 36, 37, 38, 39, 0, 1, 2, 3, 4, 5, 40, 41, 42, 6, 7, 8, 9, 10, 11, 12, 13, 14, 15, 16, 17, 18, 19, 20, 21, 22] rfl
    have hD := hD.part (cx := (jw_ws out cJ 1 of ++ (bb_ws b0 bd0 pr0 t0 au0 da (.ref g0) ++ (rw_ws da cJ (r8 u9.1.1 u9.1.2.1 u9.1.2.2.1 u9.1.2.2.2.1 u9.1.2.2.2.2.1 u9.1.2.2.2.2.2.1 u9.1.2.2.2.2.2.2.1 u9.1.2.2.2.2.2.2.2) ++ (bd_ws bd0 h0 ro lo n cR (rrf rb) (rrf lb) ++ (pr_ws pr0 h0 cm cJ u9.2.1 ++ (hu_ws h0 aw ax ay cJ cI u9.2.2 ++ (tt_ws t0 ka aa ba sa (.ref g0) cJ T ++ (au_ws au0 bd0 pr0 tu0 sd ++ (tt_ws tu0 uka uaa uba usa gu cJ T0 ++ (gp_ws g0 mF mE P f1 k1 Q f2 k2 G ++ (mo_ws m0 e0 (nI (t_tn T)) (nI n) (nI (t_bc T)) (lN P) (lN Q) (lN G) (lN (ckey (t_tn T) (t_kc T) (t_kp T))) (lN (t_pa T)) (lN (t_pb T)) (t_sht T) a0 a1 a2 a3 a4 a5 a6 a7 a8 a9 mb0 mb1 oc mb2 mb3 mb4 mb5 ++ (iw_ws a7 cI 256 bf ++ (iw_ws a8 cI 64 sc ++ (iw_ws a9 cI 8 st ++ (iw_ws mb0 cI 8 kS ++ (iw_ws mb1 cI 64 kR ++ (jw_ws a2 cJ 4 tf ++ (jw_ws a0 cJ 1232 nf ++ (jw_ws a1 cJ 616 cf ++ (iw_ws a4 cI 4 kf ++ (jw_ws mb2 cJ 4 ky ++ (jw_ws a3 cJ 16 lf ++ (iw_ws a5 cI 4 sf ++ (iw_ws a6 cI 64 vf ++ (jw_ws mb3 cJ 128 md ++ (jw_ws mb4 cJ 4 sh ++ iw_ws mb5 cI 64 ct))))))))))))))))))))))))))) [23, 24, 25, 26, 27, 28, 29, 30, 31, 32, 33, 34, 35, 36, 37, 38, 39, 0, 1, 2, 3, 4, 5, 40, 41, 42, 6, 7, 8, 9, 10, 11, 12, 13, 14, 15, 16, 17, 18, 19, 20, 21, 22] (by decide) rfl
    generalize H1 = H at hP hS ⊢
    clear hPc hDc hFc hP1 hD1 hK1 ht hk1 hz1
    have hr9 : r_1 = 1 := hw
    subst hr9
    refine lv_istore (lv' := [(5, .int 1), (4, .int (nI i)), (3, .ref out), (2, .ref m0), (1, .ref b0), (0, .ref b)]) hx hb d_law_1488 hl (by decide) rfl (fun ls hl => ?_)
    refine lv_aload_n hx hb d_law_1490 rfl (lv_at hl 3 rfl) ?_
    refine lv_aload_n hx hb d_law_1491 rfl (lv_at hl 5 rfl) ?_
    refine lv_iload hx hb d_law_1492 (lv_at hl 1 rfl) ?_
    refine lv_iconst (v := 1) hx hb d_law_1494 (by decide) ?_
    refine lv_iadd hx hb d_law_1495 ?_
    rw [show ((nI i) + 1 : Int32) = nI (i + 1) from nI_add _ 1]
    refine va_sld hx hb hX hbl hbA hS (vp_in_nI (by omega) (by omega)) d_law_1496 ?_
    rw [show (xs (nI (i + 1)).toNatClampNeg : Int32) = xs (i + 1) from by rw [nI_clamp (by omega)]]
    rw [show (xs (i + 1) : Int32) = x1 from hx1.symm]
    refine lv_aload_n hx hb d_law_1497 rfl (lv_at hl 5 rfl) ?_
    refine lv_iload hx hb d_law_1498 (lv_at hl 1 rfl) ?_
    refine lv_iconst (v := 2) hx hb d_law_1500 (by decide) ?_
    refine lv_iadd hx hb d_law_1501 ?_
    rw [show ((nI i) + 2 : Int32) = nI (i + 2) from nI_add _ 2]
    refine va_sld hx hb hX hbl hbA hS (vp_in_nI (by omega) (by omega)) d_law_1502 ?_
    rw [show (xs (nI (i + 2)).toNatClampNeg : Int32) = xs (i + 2) from by rw [nI_clamp (by omega)]]
    refine lv_i2l (v := (xs (i + 2) : Int32).toInt64) hx hb d_law_1503 rfl ?_
    refine lv_bipush (v := 32) hx hb d_law_1504 (by decide) ?_
    refine lv_lshl (v := ((xs (i + 2) : Int32).toInt64 : Int64) <<< ((32 : Int32).toInt64 &&& 63)) hx hb d_law_1506 rfl ?_
    refine lv_aload_n hx hb d_law_1507 rfl (lv_at hl 5 rfl) ?_
    refine lv_iload hx hb d_law_1508 (lv_at hl 1 rfl) ?_
    refine lv_iconst (v := 3) hx hb d_law_1510 (by decide) ?_
    refine lv_iadd hx hb d_law_1511 ?_
    rw [show ((nI i) + 3 : Int32) = nI (i + 3) from nI_add _ 3]
    refine va_sld hx hb hX hbl hbA hS (vp_in_nI (by omega) (by omega)) d_law_1512 ?_
    rw [show (xs (nI (i + 3)).toNatClampNeg : Int32) = xs (i + 3) from by rw [nI_clamp (by omega)]]
    refine lv_i2l (v := (xs (i + 3) : Int32).toInt64) hx hb d_law_1513 rfl ?_
    refine lv_ldc2 (v := 4294967295) hx hb hown (hts _ (List.mem_cons_of_mem _ gk_1202)) d_law_1514 ?_
    refine lv_land hx hb d_law_1517 ?_
    refine lv_lor hx hb d_law_1518 ?_
    rw [show ((((xs (i + 2) : Int32).toInt64 : Int64) <<< ((32 : Int32).toInt64 &&& 63)) ||| (((xs (i + 3) : Int32).toInt64) &&& 4294967295) : Int64) = x2 from hx2.symm]
    refine lv_aload_n hx hb d_law_1519 rfl (lv_at hl 5 rfl) ?_
    refine lv_iload hx hb d_law_1520 (lv_at hl 1 rfl) ?_
    refine lv_iconst (v := 4) hx hb d_law_1522 (by decide) ?_
    refine lv_iadd hx hb d_law_1523 ?_
    rw [show ((nI i) + 4 : Int32) = nI (i + 4) from nI_add _ 4]
    refine va_sld hx hb hX hbl hbA hS (vp_in_nI (by omega) (by omega)) d_law_1524 ?_
    rw [show (xs (nI (i + 4)).toNatClampNeg : Int32) = xs (i + 4) from by rw [nI_clamp (by omega)]]
    refine lv_i2l (v := (xs (i + 4) : Int32).toInt64) hx hb d_law_1525 rfl ?_
    refine lv_bipush (v := 32) hx hb d_law_1526 (by decide) ?_
    refine lv_lshl (v := ((xs (i + 4) : Int32).toInt64 : Int64) <<< ((32 : Int32).toInt64 &&& 63)) hx hb d_law_1528 rfl ?_
    refine lv_aload_n hx hb d_law_1529 rfl (lv_at hl 5 rfl) ?_
    refine lv_iload hx hb d_law_1530 (lv_at hl 1 rfl) ?_
    refine lv_iconst (v := 5) hx hb d_law_1532 (by decide) ?_
    refine lv_iadd hx hb d_law_1533 ?_
    rw [show ((nI i) + 5 : Int32) = nI (i + 5) from nI_add _ 5]
    refine va_sld hx hb hX hbl hbA hS (vp_in_nI (by omega) (by omega)) d_law_1534 ?_
    rw [show (xs (nI (i + 5)).toNatClampNeg : Int32) = xs (i + 5) from by rw [nI_clamp (by omega)]]
    refine lv_i2l (v := (xs (i + 5) : Int32).toInt64) hx hb d_law_1535 rfl ?_
    refine lv_ldc2 (v := 4294967295) hx hb hown (hts _ (List.mem_cons_of_mem _ gk_1202)) d_law_1536 ?_
    refine lv_land hx hb d_law_1539 ?_
    refine lv_lor hx hb d_law_1540 ?_
    rw [show ((((xs (i + 4) : Int32).toInt64 : Int64) <<< ((32 : Int32).toInt64 &&& 63)) ||| (((xs (i + 5) : Int32).toInt64) &&& 4294967295) : Int64) = x3 from hx3.symm]
    have hPc := hP.sub (ws' := (mo_ws m0 e0 (nI (t_tn T)) (nI n) (nI (t_bc T)) (lN P) (lN Q) (lN G) (lN (ckey (t_tn T) (t_kc T) (t_kp T))) (lN (t_pa T)) (lN (t_pb T)) (t_sht T) a0 a1 a2 a3 a4 a5 a6 a7 a8 a9 mb0 mb1 oc mb2 mb3 mb4 mb5 ++ (iw_ws a7 cI 256 bf ++ (iw_ws a8 cI 64 sc ++ (iw_ws a9 cI 8 st ++ (iw_ws mb0 cI 8 kS ++ (iw_ws mb1 cI 64 kR ++ (jw_ws a2 cJ 4 tf ++ (jw_ws a0 cJ 1232 nf ++ (jw_ws a1 cJ 616 cf ++ (iw_ws a5 cI 4 sf ++ (jw_ws mb4 cJ 4 sh ++ (jw_ws mb2 cJ 4 ky ++ jw_ws a3 cJ 16 lf))))))))))))) [26, 27, 28, 29, 30, 31, 32, 33, 34, 38, 41, 36, 37] rfl
    have hDc := hD.sub (ws' := (mo_ws m0 e0 (nI (t_tn T)) (nI n) (nI (t_bc T)) (lN P) (lN Q) (lN G) (lN (ckey (t_tn T) (t_kc T) (t_kp T))) (lN (t_pa T)) (lN (t_pb T)) (t_sht T) a0 a1 a2 a3 a4 a5 a6 a7 a8 a9 mb0 mb1 oc mb2 mb3 mb4 mb5 ++ (iw_ws a7 cI 256 bf ++ (iw_ws a8 cI 64 sc ++ (iw_ws a9 cI 8 st ++ (iw_ws mb0 cI 8 kS ++ (iw_ws mb1 cI 64 kR ++ (jw_ws a2 cJ 4 tf ++ (jw_ws a0 cJ 1232 nf ++ (jw_ws a1 cJ 616 cf ++ (iw_ws a5 cI 4 sf ++ (jw_ws mb4 cJ 4 sh ++ (jw_ws mb2 cJ 4 ky ++ jw_ws a3 cJ 16 lf))))))))))))) [26, 27, 28, 29, 30, 31, 32, 33, 34, 38, 41, 36, 37] (by decide) rfl
    have hKc := hK.sub (tys' := [(cJ, .long), (cI, .int)]) [0, 1] rfl
    have hFc := va_free (wc := (mo_ws m0 e0 (nI (t_tn T)) (nI n) (nI (t_bc T)) (lN P) (lN Q) (lN G) (lN (ckey (t_tn T) (t_kc T) (t_kp T))) (lN (t_pa T)) (lN (t_pb T)) (t_sht T) a0 a1 a2 a3 a4 a5 a6 a7 a8 a9 mb0 mb1 oc mb2 mb3 mb4 mb5 ++ (iw_ws a7 cI 256 bf ++ (iw_ws a8 cI 64 sc ++ (iw_ws a9 cI 8 st ++ (iw_ws mb0 cI 8 kS ++ (iw_ws mb1 cI 64 kR ++ (jw_ws a2 cJ 4 tf ++ (jw_ws a0 cJ 1232 nf ++ (jw_ws a1 cJ 616 cf ++ (iw_ws a5 cI 4 sf ++ (jw_ws mb4 cJ 4 sh ++ (jw_ws mb2 cJ 4 ky ++ jw_ws a3 cJ 16 lf))))))))))))) hD hS hA [26, 27, 28, 29, 30, 31, 32, 33, 34, 38, 41, 36, 37] rfl
    refine va_calli (va_runV (As := [.int x1, .long x2, .long x3]) (rest := []) ⟨hx, hb, hml, hown, hts⟩ (c_Bm_makeShare_1 l dC dI cJ cI H.size m0 e0 (t_tn T) n (t_bc T) P Q G (ckey (t_tn T) (t_kc T) (t_kp T)) (t_pa T) (t_pb T) (t_sht T) a0 a1 a2 a3 a4 a5 a6 a7 a8 a9 mb0 mb1 oc mb2 mb3 mb4 mb5 bf sc st sf tf nf cf sh ky lf (t_so T) (t_ko T) x1 x2 x3 htn hgr hsh0 hclN hn hrs hky hpa hC1) (cwV 3 hts (gw_V gk_1166 gk_1167 gk_1168 gk_7 gk_1169) rfl rfl rfl (by decide +kernel) ⟨(Nat.le_of_ble_eq_true rfl), (Nat.le_of_ble_eq_true rfl)⟩) ⟨fun a U g mk q => by obtain ⟨q0, q1, qP, qK, qD⟩ := q; exact ⟨q0, q1, qP, va_K.moved (u := U) (U := U.calling g mk a) (Vm.Alike.refl U.vm) qK, qD⟩, va_recv hK hP (ci := 8) (q0 := 26) rfl rfl, fun U hU hW => ⟨rfl, by rw [hU], by rw [hU]; exact hPc, va_K.moved hW.alike hKc, hDc.weaken (fun _ _ _ _ => trivial)⟩⟩ rfl rfl hl.1 rfl (lv_room (Nat.le_of_ble_eq_true rfl)) d_law_1541 ⟨show cells + 8 + 0 ≤ 601024 by omega, show slots + 48 + 0 ≤ 7293034 by omega⟩) hS (fun q _ h => hFc q h) hFc (fun r_2 v9 t9 H1 locs ht hvm hw hB hz1 hk1 hS => ?_)
    obtain ⟨hP1, hK1, hD1⟩ := hB
    rw [ht] at hP1
    obtain ⟨hP, hD⟩ := va_joinQ (X := (jw_ws out cJ 1 of ++ (bb_ws b0 bd0 pr0 t0 au0 da (.ref g0) ++ (rw_ws da cJ (r8 u9.1.1 u9.1.2.1 u9.1.2.2.1 u9.1.2.2.2.1 u9.1.2.2.2.2.1 u9.1.2.2.2.2.2.1 u9.1.2.2.2.2.2.2.1 u9.1.2.2.2.2.2.2.2) ++ (bd_ws bd0 h0 ro lo n cR (rrf rb) (rrf lb) ++ (pr_ws pr0 h0 cm cJ u9.2.1 ++ (hu_ws h0 aw ax ay cJ cI u9.2.2 ++ (tt_ws t0 ka aa ba sa (.ref g0) cJ T ++ (au_ws au0 bd0 pr0 tu0 sd ++ (tt_ws tu0 uka uaa uba usa gu cJ T0 ++ (gp_ws g0 mF mE P f1 k1 Q f2 k2 G ++ (mo_ws m0 e0 (nI (t_tn T)) (nI n) (nI (t_bc T)) (lN P) (lN Q) (lN G) (lN (ckey (t_tn T) (t_kc T) (t_kp T))) (lN (t_pa T)) (lN (t_pb T)) (t_sht T) a0 a1 a2 a3 a4 a5 a6 a7 a8 a9 mb0 mb1 oc mb2 mb3 mb4 mb5 ++ (iw_ws a7 cI 256 bf ++ (iw_ws a8 cI 64 sc ++ (iw_ws a9 cI 8 st ++ (iw_ws mb0 cI 8 kS ++ (iw_ws mb1 cI 64 kR ++ (jw_ws a2 cJ 4 tf ++ (jw_ws a0 cJ 1232 nf ++ (jw_ws a1 cJ 616 cf ++ (iw_ws a4 cI 4 kf ++ (jw_ws mb2 cJ 4 ky ++ (jw_ws a3 cJ 16 lf ++ (iw_ws a5 cI 4 sf ++ (iw_ws a6 cI 64 vf ++ (jw_ws mb3 cJ 128 md ++ (jw_ws mb4 cJ 4 sh ++ iw_ws mb5 cI 64 ct))))))))))))))))))))))))))) (cx := (mo_ws m0 e0 (nI (t_tn T)) (nI n) (nI (t_bc T)) (lN P) (lN Q) (lN G) (lN (ckey (t_tn T) (t_kc T) (t_kp T))) (lN (t_pa T)) (lN (t_pb T)) (t_sht T) a0 a1 a2 a3 a4 a5 a6 a7 a8 a9 mb0 mb1 oc mb2 mb3 mb4 mb5 ++ (iw_ws a7 cI 256 bf ++ (iw_ws a8 cI 64 sc ++ (iw_ws a9 cI 8 st ++ (iw_ws mb0 cI 8 kS ++ (iw_ws mb1 cI 64 kR ++ (jw_ws a2 cJ 4 tf ++ (jw_ws a0 cJ 1232 nf ++ (jw_ws a1 cJ 616 cf ++ (iw_ws a5 cI 4 sf ++ (jw_ws mb4 cJ 4 sh ++ (jw_ws mb2 cJ 4 ky ++ jw_ws a3 cJ 16 lf))))))))))))) (wr := (jw_ws out cJ 1 of ++ (bb_ws b0 bd0 pr0 t0 au0 da (.ref g0) ++ (rw_ws da cJ (r8 u9.1.1 u9.1.2.1 u9.1.2.2.1 u9.1.2.2.2.1 u9.1.2.2.2.2.1 u9.1.2.2.2.2.2.1 u9.1.2.2.2.2.2.2.1 u9.1.2.2.2.2.2.2.2) ++ (bd_ws bd0 h0 ro lo n cR (rrf rb) (rrf lb) ++ (pr_ws pr0 h0 cm cJ u9.2.1 ++ (hu_ws h0 aw ax ay cJ cI u9.2.2 ++ (tt_ws t0 ka aa ba sa (.ref g0) cJ T ++ (au_ws au0 bd0 pr0 tu0 sd ++ (tt_ws tu0 uka uaa uba usa gu cJ T0 ++ (gp_ws g0 mF mE P f1 k1 Q f2 k2 G ++ (iw_ws a4 cI 4 kf ++ (iw_ws a6 cI 64 vf ++ (jw_ws mb3 cJ 128 md ++ iw_ws mb5 cI 64 ct)))))))))))))) (w1 := (mo_ws m0 1 (nI (t_tn T)) (nI n) (nI (t_bc T)) (lN P) (lN Q) (lN G) (lN (ckey (t_tn T) (t_kc T) (t_kp T))) (lN (t_pa T)) (lN (t_pb T)) (t_sht T) a0 a1 a2 a3 a4 a5 a6 a7 a8 a9 mb0 mb1 oc mb2 mb3 mb4 mb5 ++ (iw_ws a7 cI 256 bf ++ (iw_ws a8 cI 64 sc ++ (iw_ws a9 cI 8 st ++ (iw_ws mb0 cI 8 kS ++ (iw_ws mb1 cI 64 kR ++ (jw_ws a2 cJ 4 tf ++ (jw_ws a0 cJ 1232 nf ++ (jw_ws a1 cJ 616 cf ++ (iw_ws a5 cI 4 sf ++ (jw_ws mb4 cJ 4 sh ++ (jw_ws mb2 cJ 4 ky ++ jw_ws a3 cJ 16 lf))))))))))))) (pl := bpool rb lb cJ R Lk) hP hD [26, 27, 28, 29, 30, 31, 32, 33, 34, 38, 41, 36, 37] [0, 1, 2, 3, 4, 5, 6, 7, 8, 9, 10, 11, 12, 13, 14, 15, 16, 17, 18, 19, 20, 21, 22, 23, 24, 25, 35, 39, 40, 42] rfl rfl (by decide) (by decide) hk1 hFc hP1 hD1
    have hP := hP.part (cx := (jw_ws out cJ 1 of ++ (bb_ws b0 bd0 pr0 t0 au0 da (.ref g0) ++ (rw_ws da cJ (r8 u9.1.1 u9.1.2.1 u9.1.2.2.1 u9.1.2.2.2.1 u9.1.2.2.2.2.1 u9.1.2.2.2.2.2.1 u9.1.2.2.2.2.2.2.1 u9.1.2.2.2.2.2.2.2) ++ (bd_ws bd0 h0 ro lo n cR (rrf rb) (rrf lb) ++ (pr_ws pr0 h0 cm cJ u9.2.1 ++ (hu_ws h0 aw ax ay cJ cI u9.2.2 ++ (tt_ws t0 ka aa ba sa (.ref g0) cJ T ++ (au_ws au0 bd0 pr0 tu0 sd ++ (tt_ws tu0 uka uaa uba usa gu cJ T0 ++ (gp_ws g0 mF mE P f1 k1 Q f2 k2 G ++ (mo_ws m0 1 (nI (t_tn T)) (nI n) (nI (t_bc T)) (lN P) (lN Q) (lN G) (lN (ckey (t_tn T) (t_kc T) (t_kp T))) (lN (t_pa T)) (lN (t_pb T)) (t_sht T) a0 a1 a2 a3 a4 a5 a6 a7 a8 a9 mb0 mb1 oc mb2 mb3 mb4 mb5 ++ (iw_ws a7 cI 256 bf ++ (iw_ws a8 cI 64 sc ++ (iw_ws a9 cI 8 st ++ (iw_ws mb0 cI 8 kS ++ (iw_ws mb1 cI 64 kR ++ (jw_ws a2 cJ 4 tf ++ (jw_ws a0 cJ 1232 nf ++ (jw_ws a1 cJ 616 cf ++ (iw_ws a4 cI 4 kf ++ (jw_ws mb2 cJ 4 ky ++ (jw_ws a3 cJ 16 lf ++ (iw_ws a5 cI 4 sf ++ (iw_ws a6 cI 64 vf ++ (jw_ws mb3 cJ 128 md ++ (jw_ws mb4 cJ 4 sh ++ iw_ws mb5 cI 64 ct))))))))))))))))))))))))))) [0, 1, 2, 3, 4, 5, 6, 7, 8, 9, 10, 11, 12, 13, 14, 15, 16, 17, 18, 19, 20, 21, 22, 23, 24, 25, 30, 31, 32, 33, 34, 35, 36, 37, 38, 26, 41, 42, 39, 27, 28, 40, 29] rfl
    have hD := hD.part (cx := (jw_ws out cJ 1 of ++ (bb_ws b0 bd0 pr0 t0 au0 da (.ref g0) ++ (rw_ws da cJ (r8 u9.1.1 u9.1.2.1 u9.1.2.2.1 u9.1.2.2.2.1 u9.1.2.2.2.2.1 u9.1.2.2.2.2.2.1 u9.1.2.2.2.2.2.2.1 u9.1.2.2.2.2.2.2.2) ++ (bd_ws bd0 h0 ro lo n cR (rrf rb) (rrf lb) ++ (pr_ws pr0 h0 cm cJ u9.2.1 ++ (hu_ws h0 aw ax ay cJ cI u9.2.2 ++ (tt_ws t0 ka aa ba sa (.ref g0) cJ T ++ (au_ws au0 bd0 pr0 tu0 sd ++ (tt_ws tu0 uka uaa uba usa gu cJ T0 ++ (gp_ws g0 mF mE P f1 k1 Q f2 k2 G ++ (mo_ws m0 1 (nI (t_tn T)) (nI n) (nI (t_bc T)) (lN P) (lN Q) (lN G) (lN (ckey (t_tn T) (t_kc T) (t_kp T))) (lN (t_pa T)) (lN (t_pb T)) (t_sht T) a0 a1 a2 a3 a4 a5 a6 a7 a8 a9 mb0 mb1 oc mb2 mb3 mb4 mb5 ++ (iw_ws a7 cI 256 bf ++ (iw_ws a8 cI 64 sc ++ (iw_ws a9 cI 8 st ++ (iw_ws mb0 cI 8 kS ++ (iw_ws mb1 cI 64 kR ++ (jw_ws a2 cJ 4 tf ++ (jw_ws a0 cJ 1232 nf ++ (jw_ws a1 cJ 616 cf ++ (iw_ws a4 cI 4 kf ++ (jw_ws mb2 cJ 4 ky ++ (jw_ws a3 cJ 16 lf ++ (iw_ws a5 cI 4 sf ++ (iw_ws a6 cI 64 vf ++ (jw_ws mb3 cJ 128 md ++ (jw_ws mb4 cJ 4 sh ++ iw_ws mb5 cI 64 ct))))))))))))))))))))))))))) [0, 1, 2, 3, 4, 5, 6, 7, 8, 9, 10, 11, 12, 13, 14, 15, 16, 17, 18, 19, 20, 21, 22, 23, 24, 25, 30, 31, 32, 33, 34, 35, 36, 37, 38, 26, 41, 42, 39, 27, 28, 40, 29] (by decide) rfl
    generalize H1 = H at hP hS ⊢
    clear hPc hDc hFc hP1 hD1 hK1 ht hk1 hz1
    refine lv_istore (lv' := [(6, .int r_2), (5, .int 1), (4, .int (nI i)), (3, .ref out), (2, .ref m0), (1, .ref b0), (0, .ref b)]) hx hb d_law_1544 hl (by decide) rfl (fun ls hl => ?_)
    refine lv_aload_n hx hb d_law_1546 rfl (lv_at hl 4 rfl) ?_
    have hPc := hP.sub (ws' := (mo_ws m0 1 (nI (t_tn T)) (nI n) (nI (t_bc T)) (lN P) (lN Q) (lN G) (lN (ckey (t_tn T) (t_kc T) (t_kp T))) (lN (t_pa T)) (lN (t_pb T)) (t_sht T) a0 a1 a2 a3 a4 a5 a6 a7 a8 a9 mb0 mb1 oc mb2 mb3 mb4 mb5)) [26] rfl
    have hKc := hK.sub (tys' := [(cJ, .long), (cI, .int)]) [0, 1] rfl
    refine va_calli (va_runV (As := []) (rest := []) ⟨hx, hb, hml, hown, hts⟩ (c_Bm_thrown l H dC dI cJ cI m0 1 (nI (t_tn T)) (nI n) (nI (t_bc T)) (lN P) (lN Q) (lN G) (lN (ckey (t_tn T) (t_kc T) (t_kp T))) (lN (t_pa T)) (lN (t_pb T)) (t_sht T) a0 a1 a2 a3 a4 a5 a6 a7 a8 a9 mb0 mb1 oc mb2 mb3 mb4 mb5 hPc) (cwV 0 hts (gw_V gk_1004 gk_1005 gk_1006 gk_7 gk_1007) rfl rfl rfl (by decide +kernel) ⟨(Nat.le_of_ble_eq_true rfl), (Nat.le_of_ble_eq_true rfl)⟩) ⟨fun a U g mk q => ⟨q.1, q.2.1, va_K.moved (u := U) (U := U.calling g mk a) (Vm.Alike.refl U.vm) q.2.2⟩, va_recv hK hP (ci := 8) (q0 := 26) rfl rfl, fun U hU hW => ⟨rfl, hU, va_K.moved hW.alike hKc⟩⟩ rfl rfl hl.1 rfl (lv_room (Nat.le_of_ble_eq_true rfl)) d_law_1547 ⟨show cells + 8 + 0 + 0 ≤ 601024 by omega, show slots + 48 + 0 + 0 ≤ 7293034 by omega⟩) hS (fun q _ h => h.elim) (fun q h => h.elim) (fun r_3 w9 t9 H1 locs ht hvm hw9 hB hz1 hk1 hS => ?_)
    obtain rfl : H = H1 := hB.symm.trans ht
    have hw9 : r_3 = 1 := hw9
    subst hw9
    clear hPc hz1 hk1 hB
    refine lv_iload hx hb d_law_1550 (lv_at hl 1 rfl) ?_
    refine lv_icmp_eq (tgt := 1557) hx hb d_law_1552 (by decide) (fun c_4 => ?_) (fun c_4 => ?_)
    · -- taken
      refine lv_iload hx hb d_law_1557 (lv_at hl 1 rfl) ?_
      refine lv_if_ne (tgt := 1574) hx hb d_law_1559 (by decide) (fun c_5 => ?_) (fun c_5 => ?_)
      · -- taken
        refine lv_goto (tgt := 1965) hx hb d_law_1574 (by decide) ?_
        refine W.widen (k := cells + 20) (n := slots + 200) (by omega) (by omega) ?_
        have hI9 : LI dC dI cJ cI cR A out b0 m0 H := LG.mk hP hD hR
        exact cont _ _ _ hS hI9 (lv_sub hl [2, 3, 4, 5, 6] rfl)
      · -- not taken
        exact absurd c_5 (by decide)
    · -- not taken
      exact absurd c_4 (by decide)
  by_cases hC2 : sC2m P Q G (t_pa T) (t_tn T) (t_ko T) x1 x2 x3
  · -- it holds
    by_cases hC3 : kC2r Q (t_tn T) x1 x2 x3
    · -- it holds
      refine lv_aload_n hx hb d_law_1433 rfl (lv_at hl 3 rfl) ?_
      refine lv_aload_n hx hb d_law_1434 rfl (lv_at hl 4 rfl) ?_
      refine lv_iload hx hb d_law_1435 (lv_at hl 0 rfl) ?_
      refine lv_iconst (v := 1) hx hb d_law_1437 (by decide) ?_
      refine lv_iadd hx hb d_law_1438 ?_
      rw [show ((nI i) + 1 : Int32) = nI (i + 1) from nI_add _ 1]
      refine va_sld hx hb hX hbl hbA hS (vp_in_nI (by omega) (by omega)) d_law_1439 ?_
      rw [show (xs (nI (i + 1)).toNatClampNeg : Int32) = xs (i + 1) from by rw [nI_clamp (by omega)]]
      rw [show (xs (i + 1) : Int32) = x1 from hx1.symm]
      refine lv_aload_n hx hb d_law_1440 rfl (lv_at hl 4 rfl) ?_
      refine lv_iload hx hb d_law_1441 (lv_at hl 0 rfl) ?_
      refine lv_iconst (v := 2) hx hb d_law_1443 (by decide) ?_
      refine lv_iadd hx hb d_law_1444 ?_
      rw [show ((nI i) + 2 : Int32) = nI (i + 2) from nI_add _ 2]
      refine va_sld hx hb hX hbl hbA hS (vp_in_nI (by omega) (by omega)) d_law_1445 ?_
      rw [show (xs (nI (i + 2)).toNatClampNeg : Int32) = xs (i + 2) from by rw [nI_clamp (by omega)]]
      refine lv_i2l (v := (xs (i + 2) : Int32).toInt64) hx hb d_law_1446 rfl ?_
      refine lv_bipush (v := 32) hx hb d_law_1447 (by decide) ?_
      refine lv_lshl (v := ((xs (i + 2) : Int32).toInt64 : Int64) <<< ((32 : Int32).toInt64 &&& 63)) hx hb d_law_1449 rfl ?_
      refine lv_aload_n hx hb d_law_1450 rfl (lv_at hl 4 rfl) ?_
      refine lv_iload hx hb d_law_1451 (lv_at hl 0 rfl) ?_
      refine lv_iconst (v := 3) hx hb d_law_1453 (by decide) ?_
      refine lv_iadd hx hb d_law_1454 ?_
      rw [show ((nI i) + 3 : Int32) = nI (i + 3) from nI_add _ 3]
      refine va_sld hx hb hX hbl hbA hS (vp_in_nI (by omega) (by omega)) d_law_1455 ?_
      rw [show (xs (nI (i + 3)).toNatClampNeg : Int32) = xs (i + 3) from by rw [nI_clamp (by omega)]]
      refine lv_i2l (v := (xs (i + 3) : Int32).toInt64) hx hb d_law_1456 rfl ?_
      refine lv_ldc2 (v := 4294967295) hx hb hown (hts _ (List.mem_cons_of_mem _ gk_1202)) d_law_1457 ?_
      refine lv_land hx hb d_law_1460 ?_
      refine lv_lor hx hb d_law_1461 ?_
      rw [show ((((xs (i + 2) : Int32).toInt64 : Int64) <<< ((32 : Int32).toInt64 &&& 63)) ||| (((xs (i + 3) : Int32).toInt64) &&& 4294967295) : Int64) = x2 from hx2.symm]
      refine lv_aload_n hx hb d_law_1462 rfl (lv_at hl 4 rfl) ?_
      refine lv_iload hx hb d_law_1463 (lv_at hl 0 rfl) ?_
      refine lv_iconst (v := 4) hx hb d_law_1465 (by decide) ?_
      refine lv_iadd hx hb d_law_1466 ?_
      rw [show ((nI i) + 4 : Int32) = nI (i + 4) from nI_add _ 4]
      refine va_sld hx hb hX hbl hbA hS (vp_in_nI (by omega) (by omega)) d_law_1467 ?_
      rw [show (xs (nI (i + 4)).toNatClampNeg : Int32) = xs (i + 4) from by rw [nI_clamp (by omega)]]
      refine lv_i2l (v := (xs (i + 4) : Int32).toInt64) hx hb d_law_1468 rfl ?_
      refine lv_bipush (v := 32) hx hb d_law_1469 (by decide) ?_
      refine lv_lshl (v := ((xs (i + 4) : Int32).toInt64 : Int64) <<< ((32 : Int32).toInt64 &&& 63)) hx hb d_law_1471 rfl ?_
      refine lv_aload_n hx hb d_law_1472 rfl (lv_at hl 4 rfl) ?_
      refine lv_iload hx hb d_law_1473 (lv_at hl 0 rfl) ?_
      refine lv_iconst (v := 5) hx hb d_law_1475 (by decide) ?_
      refine lv_iadd hx hb d_law_1476 ?_
      rw [show ((nI i) + 5 : Int32) = nI (i + 5) from nI_add _ 5]
      refine va_sld hx hb hX hbl hbA hS (vp_in_nI (by omega) (by omega)) d_law_1477 ?_
      rw [show (xs (nI (i + 5)).toNatClampNeg : Int32) = xs (i + 5) from by rw [nI_clamp (by omega)]]
      refine lv_i2l (v := (xs (i + 5) : Int32).toInt64) hx hb d_law_1478 rfl ?_
      refine lv_ldc2 (v := 4294967295) hx hb hown (hts _ (List.mem_cons_of_mem _ gk_1202)) d_law_1479 ?_
      refine lv_land hx hb d_law_1482 ?_
      refine lv_lor hx hb d_law_1483 ?_
      rw [show ((((xs (i + 4) : Int32).toInt64 : Int64) <<< ((32 : Int32).toInt64 &&& 63)) ||| (((xs (i + 5) : Int32).toInt64) &&& 4294967295) : Int64) = x3 from hx3.symm]
      refine lv_aload_n hx hb d_law_1484 rfl (lv_at hl 1 rfl) ?_
      have hPc := hP.part (cx := (jw_ws out cJ 1 of ++ (bb_ws b0 bd0 pr0 t0 au0 da (.ref g0) ++ (rw_ws da cJ (r8 d0 d1 d2 d3 d4 d5 d6 d7) ++ (bd_ws bd0 h0 ro lo n cR (rrf rb) (rrf lb) ++ (pr_ws pr0 h0 cm cJ ccf ++ (ha_ws h0 aw ax ay cJ cI w csc cst cL ++ (tt_ws t0 ka aa ba sa (.ref g0) cJ T ++ gp_ws g0 mF mE P f1 k1 Q f2 k2 G)))))))) [0, 1, 2, 3, 4, 5, 6, 7, 8, 9, 10, 11, 12, 13, 14, 15, 16, 23, 24, 25] rfl
      have hDc := hD.part (cx := (jw_ws out cJ 1 of ++ (bb_ws b0 bd0 pr0 t0 au0 da (.ref g0) ++ (rw_ws da cJ (r8 d0 d1 d2 d3 d4 d5 d6 d7) ++ (bd_ws bd0 h0 ro lo n cR (rrf rb) (rrf lb) ++ (pr_ws pr0 h0 cm cJ ccf ++ (ha_ws h0 aw ax ay cJ cI w csc cst cL ++ (tt_ws t0 ka aa ba sa (.ref g0) cJ T ++ gp_ws g0 mF mE P f1 k1 Q f2 k2 G)))))))) [0, 1, 2, 3, 4, 5, 6, 7, 8, 9, 10, 11, 12, 13, 14, 15, 16, 23, 24, 25] (by decide) rfl
      have hKc := hK.sub (tys' := [(cJ, .long), (cI, .int), (cR, .array .long)]) [0, 1, 2] rfl
      have hFc := va_freeP (cx := (jw_ws out cJ 1 of ++ (bb_ws b0 bd0 pr0 t0 au0 da (.ref g0) ++ (rw_ws da cJ (r8 d0 d1 d2 d3 d4 d5 d6 d7) ++ (bd_ws bd0 h0 ro lo n cR (rrf rb) (rrf lb) ++ (pr_ws pr0 h0 cm cJ ccf ++ (ha_ws h0 aw ax ay cJ cI w csc cst cL ++ (tt_ws t0 ka aa ba sa (.ref g0) cJ T ++ gp_ws g0 mF mE P f1 k1 Q f2 k2 G)))))))) hD hS hA [0, 1, 2, 3, 4, 5, 6, 7, 8, 9, 10, 11, 12, 13, 14, 15, 16, 23, 24, 25] rfl
      have hZc0 : ha_Z rA sA (va_A ((jw_ws out cJ 1 of ++ (bb_ws b0 bd0 pr0 t0 au0 da (.ref g0) ++ (rw_ws da cJ (r8 d0 d1 d2 d3 d4 d5 d6 d7) ++ (bd_ws bd0 h0 ro lo n cR (rrf rb) (rrf lb) ++ (pr_ws pr0 h0 cm cJ ccf ++ (ha_ws h0 aw ax ay cJ cI w csc cst cL ++ (tt_ws t0 ka aa ba sa (.ref g0) cJ T ++ gp_ws g0 mF mE P f1 k1 Q f2 k2 G))))))) ++ bpool rb lb cJ R Lk) H.size) s H := (hZha.kept hS.2.1).narrow hFc
      have hZc1 : xz (va_A ((jw_ws out cJ 1 of ++ (bb_ws b0 bd0 pr0 t0 au0 da (.ref g0) ++ (rw_ws da cJ (r8 d0 d1 d2 d3 d4 d5 d6 d7) ++ (bd_ws bd0 h0 ro lo n cR (rrf rb) (rrf lb) ++ (pr_ws pr0 h0 cm cJ ccf ++ (ha_ws h0 aw ax ay cJ cI w csc cst cL ++ (tt_ws t0 ka aa ba sa (.ref g0) cJ T ++ gp_ws g0 mF mE P f1 k1 Q f2 k2 G))))))) ++ bpool rb lb cJ R Lk) H.size) s H := (hZx.kept hS.2.1).narrow hFc
      have hZc2 : nc_Z s := hZn
      refine vx_calli (vx_runSX (hh := h_Lw_makeShare) (As := [.ref b0, .int x1, .long x2, .long x3, .ref out]) (rest := []) ⟨hx, hb, hml, hown, hts⟩ (c_Lw_makeShare_2 l hnt dC dI cJ cI cR H.size b0 bd0 pr0 t0 au0 da h0 ro lo n rb lb cm ccf aw ax ay w csc cst cL ka aa ba sa T g0 mF mE P f1 k1 Q f2 k2 G rA sA R Lk d0 d1 d2 d3 d4 d5 d6 d7 x1 x2 x3 out of hok htok hN0 htn hkc hn hnS hn0S hC1 hC2) (vx_cwSW 5 hts (gw_Sv gk_723 gk_724 gk_0 gk_725) rfl rfl rfl (by decide +kernel) ⟨(Nat.le_of_ble_eq_true rfl), (Nat.le_of_ble_eq_true rfl)⟩) ⟨fun a U g mk q => by obtain ⟨q0, q1, qP, qK, qD, qZ0, qZ1, qZ2⟩ := q; exact ⟨q0, q1, qP, va_K.moved (u := U) (U := U.calling g mk a) (Vm.Alike.refl U.vm) qK, qD, ha_Z.moved (u := U) (U := U.calling g mk a) (Vm.Alike.refl U.vm) qZ0, xz.same (u := U) (U := U.calling g mk a) rfl qZ1, nc_Z.moved (u := U) (U := U.calling g mk a) (Vm.Alike.refl U.vm) qZ2⟩, fun U hU hW => ⟨rfl, by rw [hU], by rw [hU]; exact hPc, va_K.moved hW.alike hKc, hDc.weaken (fun _ _ _ _ => trivial), by rw [hU]; exact ha_Z.moved hW.alike hZc0, by rw [hU]; exact xz.warm hW hZc1, nc_Z.moved hW.alike hZc2⟩⟩ rfl rfl hl.1 rfl (lv_room (Nat.le_of_ble_eq_true rfl)) d_law_1485 ⟨show cells + 8 ≤ 601024 by omega, show slots + 48 ≤ 7293034 by omega⟩) hS (fun q _ h => hFc q h) hFc (fun q _ h => hFc q h) (fun E9 ce9 q9 u8 t9 H1 locs ht hvm hpx hbx hz1 hk1 hS hce hcv hcl => hpx.elim) (fun r_6 u9 t9 H1 locs ht hvm hw hB hz1 hk1 hS => ?_)
      obtain ⟨hP1, hK1, hD1⟩ := hB
      rw [ht] at hP1
      obtain ⟨hP, hD⟩ := va_joinP (X := (jw_ws out cJ 1 of ++ (bb_ws b0 bd0 pr0 t0 au0 da (.ref g0) ++ (rw_ws da cJ (r8 d0 d1 d2 d3 d4 d5 d6 d7) ++ (bd_ws bd0 h0 ro lo n cR (rrf rb) (rrf lb) ++ (pr_ws pr0 h0 cm cJ ccf ++ (ha_ws h0 aw ax ay cJ cI w csc cst cL ++ (tt_ws t0 ka aa ba sa (.ref g0) cJ T ++ (au_ws au0 bd0 pr0 tu0 sd ++ (tt_ws tu0 uka uaa uba usa gu cJ T0 ++ (gp_ws g0 mF mE P f1 k1 Q f2 k2 G ++ (mo_ws m0 e0 (nI (t_tn T)) (nI n) (nI (t_bc T)) (lN P) (lN Q) (lN G) (lN (ckey (t_tn T) (t_kc T) (t_kp T))) (lN (t_pa T)) (lN (t_pb T)) (t_sht T) a0 a1 a2 a3 a4 a5 a6 a7 a8 a9 mb0 mb1 oc mb2 mb3 mb4 mb5 ++ (iw_ws a7 cI 256 bf ++ (iw_ws a8 cI 64 sc ++ (iw_ws a9 cI 8 st ++ (iw_ws mb0 cI 8 kS ++ (iw_ws mb1 cI 64 kR ++ (jw_ws a2 cJ 4 tf ++ (jw_ws a0 cJ 1232 nf ++ (jw_ws a1 cJ 616 cf ++ (iw_ws a4 cI 4 kf ++ (jw_ws mb2 cJ 4 ky ++ (jw_ws a3 cJ 16 lf ++ (iw_ws a5 cI 4 sf ++ (iw_ws a6 cI 64 vf ++ (jw_ws mb3 cJ 128 md ++ (jw_ws mb4 cJ 4 sh ++ iw_ws mb5 cI 64 ct))))))))))))))))))))))))))) (cx := (jw_ws out cJ 1 of ++ (bb_ws b0 bd0 pr0 t0 au0 da (.ref g0) ++ (rw_ws da cJ (r8 d0 d1 d2 d3 d4 d5 d6 d7) ++ (bd_ws bd0 h0 ro lo n cR (rrf rb) (rrf lb) ++ (pr_ws pr0 h0 cm cJ ccf ++ (ha_ws h0 aw ax ay cJ cI w csc cst cL ++ (tt_ws t0 ka aa ba sa (.ref g0) cJ T ++ gp_ws g0 mF mE P f1 k1 Q f2 k2 G)))))))) (wr := (au_ws au0 bd0 pr0 tu0 sd ++ (tt_ws tu0 uka uaa uba usa gu cJ T0 ++ (mo_ws m0 e0 (nI (t_tn T)) (nI n) (nI (t_bc T)) (lN P) (lN Q) (lN G) (lN (ckey (t_tn T) (t_kc T) (t_kp T))) (lN (t_pa T)) (lN (t_pb T)) (t_sht T) a0 a1 a2 a3 a4 a5 a6 a7 a8 a9 mb0 mb1 oc mb2 mb3 mb4 mb5 ++ (iw_ws a7 cI 256 bf ++ (iw_ws a8 cI 64 sc ++ (iw_ws a9 cI 8 st ++ (iw_ws mb0 cI 8 kS ++ (iw_ws mb1 cI 64 kR ++ (jw_ws a2 cJ 4 tf ++ (jw_ws a0 cJ 1232 nf ++ (jw_ws a1 cJ 616 cf ++ (iw_ws a4 cI 4 kf ++ (jw_ws mb2 cJ 4 ky ++ (jw_ws a3 cJ 16 lf ++ (iw_ws a5 cI 4 sf ++ (iw_ws a6 cI 64 vf ++ (jw_ws mb3 cJ 128 md ++ (jw_ws mb4 cJ 4 sh ++ iw_ws mb5 cI 64 ct))))))))))))))))))) (rx := (jw_ws out cJ 1 of ++ (bb_ws b0 bd0 pr0 t0 au0 da (.ref g0) ++ (rw_ws da cJ (r8 u9.1.1 u9.1.2.1 u9.1.2.2.1 u9.1.2.2.2.1 u9.1.2.2.2.2.1 u9.1.2.2.2.2.2.1 u9.1.2.2.2.2.2.2.1 u9.1.2.2.2.2.2.2.2) ++ (bd_ws bd0 h0 ro lo n cR (rrf rb) (rrf lb) ++ (pr_ws pr0 h0 cm cJ u9.2.1 ++ (hu_ws h0 aw ax ay cJ cI u9.2.2 ++ (tt_ws t0 ka aa ba sa (.ref g0) cJ T ++ gp_ws g0 mF mE P f1 k1 Q f2 k2 G)))))))) (pl := bpool rb lb cJ R Lk) (pl1 := bpool rb lb cJ R Lk) hP hD [0, 1, 2, 3, 4, 5, 6, 7, 8, 9, 10, 11, 12, 13, 14, 15, 16, 23, 24, 25] [17, 18, 19, 20, 21, 22, 26, 27, 28, 29, 30, 31, 32, 33, 34, 35, 36, 37, 38, 39, 40, 41, 42] rfl rfl (by decide) (by decide) hk1 hFc hP1 hD1
      have hP := hP.part (cx := (jw_ws out cJ 1 of ++ (bb_ws b0 bd0 pr0 t0 au0 da (.ref g0) ++ (rw_ws da cJ (r8 u9.1.1 u9.1.2.1 u9.1.2.2.1 u9.1.2.2.2.1 u9.1.2.2.2.2.1 u9.1.2.2.2.2.2.1 u9.1.2.2.2.2.2.2.1 u9.1.2.2.2.2.2.2.2) ++ (bd_ws bd0 h0 ro lo n cR (rrf rb) (rrf lb) ++ (pr_ws pr0 h0 cm cJ u9.2.1 ++ (hu_ws h0 aw ax ay cJ cI u9.2.2 ++ (tt_ws t0 ka aa ba sa (.ref g0) cJ T ++ (au_ws au0 bd0 pr0 tu0 sd ++ (tt_ws tu0 uka uaa uba usa gu cJ T0 ++ (gp_ws g0 mF mE P f1 k1 Q f2 k2 G ++ (mo_ws m0 e0 (nI (t_tn T)) (nI n) (nI (t_bc T)) (lN P) (lN Q) (lN G) (lN (ckey (t_tn T) (t_kc T) (t_kp T))) (lN (t_pa T)) (lN (t_pb T)) (t_sht T) a0 a1 a2 a3 a4 a5 a6 a7 a8 a9 mb0 mb1 oc mb2 mb3 mb4 mb5 ++ (iw_ws a7 cI 256 bf ++ (iw_ws a8 cI 64 sc ++ (iw_ws a9 cI 8 st ++ (iw_ws mb0 cI 8 kS ++ (iw_ws mb1 cI 64 kR ++ (jw_ws a2 cJ 4 tf ++ (jw_ws a0 cJ 1232 nf ++ (jw_ws a1 cJ 616 cf ++ (iw_ws a4 cI 4 kf ++ (jw_ws mb2 cJ 4 ky ++ (jw_ws a3 cJ 16 lf ++ (iw_ws a5 cI 4 sf ++ (iw_ws a6 cI 64 vf ++ (jw_ws mb3 cJ 128 md ++ (jw_ws mb4 cJ 4 sh ++ iw_ws mb5 cI 64 ct))))))))))))))))))))))))))) [23, 24, 25, 26, 27, 28, 29, 30, 31, 32, 33, 34, 35, 36, 37, 38, 39, 0, 1, 2, 3, 4, 5, 40, 41, 42, 6, 7, 8, 9, 10, 11, 12, 13, 14, 15, 16, 17, 18, 19, 20, 21, 22] rfl
      have hD := hD.part (cx := (jw_ws out cJ 1 of ++ (bb_ws b0 bd0 pr0 t0 au0 da (.ref g0) ++ (rw_ws da cJ (r8 u9.1.1 u9.1.2.1 u9.1.2.2.1 u9.1.2.2.2.1 u9.1.2.2.2.2.1 u9.1.2.2.2.2.2.1 u9.1.2.2.2.2.2.2.1 u9.1.2.2.2.2.2.2.2) ++ (bd_ws bd0 h0 ro lo n cR (rrf rb) (rrf lb) ++ (pr_ws pr0 h0 cm cJ u9.2.1 ++ (hu_ws h0 aw ax ay cJ cI u9.2.2 ++ (tt_ws t0 ka aa ba sa (.ref g0) cJ T ++ (au_ws au0 bd0 pr0 tu0 sd ++ (tt_ws tu0 uka uaa uba usa gu cJ T0 ++ (gp_ws g0 mF mE P f1 k1 Q f2 k2 G ++ (mo_ws m0 e0 (nI (t_tn T)) (nI n) (nI (t_bc T)) (lN P) (lN Q) (lN G) (lN (ckey (t_tn T) (t_kc T) (t_kp T))) (lN (t_pa T)) (lN (t_pb T)) (t_sht T) a0 a1 a2 a3 a4 a5 a6 a7 a8 a9 mb0 mb1 oc mb2 mb3 mb4 mb5 ++ (iw_ws a7 cI 256 bf ++ (iw_ws a8 cI 64 sc ++ (iw_ws a9 cI 8 st ++ (iw_ws mb0 cI 8 kS ++ (iw_ws mb1 cI 64 kR ++ (jw_ws a2 cJ 4 tf ++ (jw_ws a0 cJ 1232 nf ++ (jw_ws a1 cJ 616 cf ++ (iw_ws a4 cI 4 kf ++ (jw_ws mb2 cJ 4 ky ++ (jw_ws a3 cJ 16 lf ++ (iw_ws a5 cI 4 sf ++ (iw_ws a6 cI 64 vf ++ (jw_ws mb3 cJ 128 md ++ (jw_ws mb4 cJ 4 sh ++ iw_ws mb5 cI 64 ct))))))))))))))))))))))))))) [23, 24, 25, 26, 27, 28, 29, 30, 31, 32, 33, 34, 35, 36, 37, 38, 39, 0, 1, 2, 3, 4, 5, 40, 41, 42, 6, 7, 8, 9, 10, 11, 12, 13, 14, 15, 16, 17, 18, 19, 20, 21, 22] (by decide) rfl
      generalize H1 = H at hP hS ⊢
      clear hPc hDc hFc hP1 hD1 hK1 ht hk1 hz1
      have hr9 : r_6 = 2 := hw
      subst hr9
      refine lv_istore (lv' := [(5, .int 2), (4, .int (nI i)), (3, .ref out), (2, .ref m0), (1, .ref b0), (0, .ref b)]) hx hb d_law_1488 hl (by decide) rfl (fun ls hl => ?_)
      refine lv_aload_n hx hb d_law_1490 rfl (lv_at hl 3 rfl) ?_
      refine lv_aload_n hx hb d_law_1491 rfl (lv_at hl 5 rfl) ?_
      refine lv_iload hx hb d_law_1492 (lv_at hl 1 rfl) ?_
      refine lv_iconst (v := 1) hx hb d_law_1494 (by decide) ?_
      refine lv_iadd hx hb d_law_1495 ?_
      rw [show ((nI i) + 1 : Int32) = nI (i + 1) from nI_add _ 1]
      refine va_sld hx hb hX hbl hbA hS (vp_in_nI (by omega) (by omega)) d_law_1496 ?_
      rw [show (xs (nI (i + 1)).toNatClampNeg : Int32) = xs (i + 1) from by rw [nI_clamp (by omega)]]
      rw [show (xs (i + 1) : Int32) = x1 from hx1.symm]
      refine lv_aload_n hx hb d_law_1497 rfl (lv_at hl 5 rfl) ?_
      refine lv_iload hx hb d_law_1498 (lv_at hl 1 rfl) ?_
      refine lv_iconst (v := 2) hx hb d_law_1500 (by decide) ?_
      refine lv_iadd hx hb d_law_1501 ?_
      rw [show ((nI i) + 2 : Int32) = nI (i + 2) from nI_add _ 2]
      refine va_sld hx hb hX hbl hbA hS (vp_in_nI (by omega) (by omega)) d_law_1502 ?_
      rw [show (xs (nI (i + 2)).toNatClampNeg : Int32) = xs (i + 2) from by rw [nI_clamp (by omega)]]
      refine lv_i2l (v := (xs (i + 2) : Int32).toInt64) hx hb d_law_1503 rfl ?_
      refine lv_bipush (v := 32) hx hb d_law_1504 (by decide) ?_
      refine lv_lshl (v := ((xs (i + 2) : Int32).toInt64 : Int64) <<< ((32 : Int32).toInt64 &&& 63)) hx hb d_law_1506 rfl ?_
      refine lv_aload_n hx hb d_law_1507 rfl (lv_at hl 5 rfl) ?_
      refine lv_iload hx hb d_law_1508 (lv_at hl 1 rfl) ?_
      refine lv_iconst (v := 3) hx hb d_law_1510 (by decide) ?_
      refine lv_iadd hx hb d_law_1511 ?_
      rw [show ((nI i) + 3 : Int32) = nI (i + 3) from nI_add _ 3]
      refine va_sld hx hb hX hbl hbA hS (vp_in_nI (by omega) (by omega)) d_law_1512 ?_
      rw [show (xs (nI (i + 3)).toNatClampNeg : Int32) = xs (i + 3) from by rw [nI_clamp (by omega)]]
      refine lv_i2l (v := (xs (i + 3) : Int32).toInt64) hx hb d_law_1513 rfl ?_
      refine lv_ldc2 (v := 4294967295) hx hb hown (hts _ (List.mem_cons_of_mem _ gk_1202)) d_law_1514 ?_
      refine lv_land hx hb d_law_1517 ?_
      refine lv_lor hx hb d_law_1518 ?_
      rw [show ((((xs (i + 2) : Int32).toInt64 : Int64) <<< ((32 : Int32).toInt64 &&& 63)) ||| (((xs (i + 3) : Int32).toInt64) &&& 4294967295) : Int64) = x2 from hx2.symm]
      refine lv_aload_n hx hb d_law_1519 rfl (lv_at hl 5 rfl) ?_
      refine lv_iload hx hb d_law_1520 (lv_at hl 1 rfl) ?_
      refine lv_iconst (v := 4) hx hb d_law_1522 (by decide) ?_
      refine lv_iadd hx hb d_law_1523 ?_
      rw [show ((nI i) + 4 : Int32) = nI (i + 4) from nI_add _ 4]
      refine va_sld hx hb hX hbl hbA hS (vp_in_nI (by omega) (by omega)) d_law_1524 ?_
      rw [show (xs (nI (i + 4)).toNatClampNeg : Int32) = xs (i + 4) from by rw [nI_clamp (by omega)]]
      refine lv_i2l (v := (xs (i + 4) : Int32).toInt64) hx hb d_law_1525 rfl ?_
      refine lv_bipush (v := 32) hx hb d_law_1526 (by decide) ?_
      refine lv_lshl (v := ((xs (i + 4) : Int32).toInt64 : Int64) <<< ((32 : Int32).toInt64 &&& 63)) hx hb d_law_1528 rfl ?_
      refine lv_aload_n hx hb d_law_1529 rfl (lv_at hl 5 rfl) ?_
      refine lv_iload hx hb d_law_1530 (lv_at hl 1 rfl) ?_
      refine lv_iconst (v := 5) hx hb d_law_1532 (by decide) ?_
      refine lv_iadd hx hb d_law_1533 ?_
      rw [show ((nI i) + 5 : Int32) = nI (i + 5) from nI_add _ 5]
      refine va_sld hx hb hX hbl hbA hS (vp_in_nI (by omega) (by omega)) d_law_1534 ?_
      rw [show (xs (nI (i + 5)).toNatClampNeg : Int32) = xs (i + 5) from by rw [nI_clamp (by omega)]]
      refine lv_i2l (v := (xs (i + 5) : Int32).toInt64) hx hb d_law_1535 rfl ?_
      refine lv_ldc2 (v := 4294967295) hx hb hown (hts _ (List.mem_cons_of_mem _ gk_1202)) d_law_1536 ?_
      refine lv_land hx hb d_law_1539 ?_
      refine lv_lor hx hb d_law_1540 ?_
      rw [show ((((xs (i + 4) : Int32).toInt64 : Int64) <<< ((32 : Int32).toInt64 &&& 63)) ||| (((xs (i + 5) : Int32).toInt64) &&& 4294967295) : Int64) = x3 from hx3.symm]
      have hPc := hP.sub (ws' := (mo_ws m0 e0 (nI (t_tn T)) (nI n) (nI (t_bc T)) (lN P) (lN Q) (lN G) (lN (ckey (t_tn T) (t_kc T) (t_kp T))) (lN (t_pa T)) (lN (t_pb T)) (t_sht T) a0 a1 a2 a3 a4 a5 a6 a7 a8 a9 mb0 mb1 oc mb2 mb3 mb4 mb5 ++ (iw_ws a7 cI 256 bf ++ (iw_ws a8 cI 64 sc ++ (iw_ws a9 cI 8 st ++ (iw_ws mb0 cI 8 kS ++ (iw_ws mb1 cI 64 kR ++ (jw_ws a2 cJ 4 tf ++ (jw_ws a0 cJ 1232 nf ++ (jw_ws a1 cJ 616 cf ++ (iw_ws a5 cI 4 sf ++ (jw_ws mb4 cJ 4 sh ++ (jw_ws mb2 cJ 4 ky ++ jw_ws a3 cJ 16 lf))))))))))))) [26, 27, 28, 29, 30, 31, 32, 33, 34, 38, 41, 36, 37] rfl
      have hDc := hD.sub (ws' := (mo_ws m0 e0 (nI (t_tn T)) (nI n) (nI (t_bc T)) (lN P) (lN Q) (lN G) (lN (ckey (t_tn T) (t_kc T) (t_kp T))) (lN (t_pa T)) (lN (t_pb T)) (t_sht T) a0 a1 a2 a3 a4 a5 a6 a7 a8 a9 mb0 mb1 oc mb2 mb3 mb4 mb5 ++ (iw_ws a7 cI 256 bf ++ (iw_ws a8 cI 64 sc ++ (iw_ws a9 cI 8 st ++ (iw_ws mb0 cI 8 kS ++ (iw_ws mb1 cI 64 kR ++ (jw_ws a2 cJ 4 tf ++ (jw_ws a0 cJ 1232 nf ++ (jw_ws a1 cJ 616 cf ++ (iw_ws a5 cI 4 sf ++ (jw_ws mb4 cJ 4 sh ++ (jw_ws mb2 cJ 4 ky ++ jw_ws a3 cJ 16 lf))))))))))))) [26, 27, 28, 29, 30, 31, 32, 33, 34, 38, 41, 36, 37] (by decide) rfl
      have hKc := hK.sub (tys' := [(cJ, .long), (cI, .int)]) [0, 1] rfl
      have hFc := va_free (wc := (mo_ws m0 e0 (nI (t_tn T)) (nI n) (nI (t_bc T)) (lN P) (lN Q) (lN G) (lN (ckey (t_tn T) (t_kc T) (t_kp T))) (lN (t_pa T)) (lN (t_pb T)) (t_sht T) a0 a1 a2 a3 a4 a5 a6 a7 a8 a9 mb0 mb1 oc mb2 mb3 mb4 mb5 ++ (iw_ws a7 cI 256 bf ++ (iw_ws a8 cI 64 sc ++ (iw_ws a9 cI 8 st ++ (iw_ws mb0 cI 8 kS ++ (iw_ws mb1 cI 64 kR ++ (jw_ws a2 cJ 4 tf ++ (jw_ws a0 cJ 1232 nf ++ (jw_ws a1 cJ 616 cf ++ (iw_ws a5 cI 4 sf ++ (jw_ws mb4 cJ 4 sh ++ (jw_ws mb2 cJ 4 ky ++ jw_ws a3 cJ 16 lf))))))))))))) hD hS hA [26, 27, 28, 29, 30, 31, 32, 33, 34, 38, 41, 36, 37] rfl
      refine va_calli (va_runV (As := [.int x1, .long x2, .long x3]) (rest := []) ⟨hx, hb, hml, hown, hts⟩ (c_Bm_makeShare_2 l dC dI cJ cI H.size m0 e0 (t_tn T) n (t_bc T) P Q G (ckey (t_tn T) (t_kc T) (t_kp T)) (t_pa T) (t_pb T) (t_sht T) a0 a1 a2 a3 a4 a5 a6 a7 a8 a9 mb0 mb1 oc mb2 mb3 mb4 mb5 bf sc st sf tf nf cf sh ky lf (t_so T) (t_ko T) x1 x2 x3 htn hgr hsh0 hclN hn hrs hky hpa hC1 hC3) (cwV 3 hts (gw_V gk_1166 gk_1167 gk_1168 gk_7 gk_1169) rfl rfl rfl (by decide +kernel) ⟨(Nat.le_of_ble_eq_true rfl), (Nat.le_of_ble_eq_true rfl)⟩) ⟨fun a U g mk q => by obtain ⟨q0, q1, qP, qK, qD⟩ := q; exact ⟨q0, q1, qP, va_K.moved (u := U) (U := U.calling g mk a) (Vm.Alike.refl U.vm) qK, qD⟩, va_recv hK hP (ci := 8) (q0 := 26) rfl rfl, fun U hU hW => ⟨rfl, by rw [hU], by rw [hU]; exact hPc, va_K.moved hW.alike hKc, hDc.weaken (fun _ _ _ _ => trivial)⟩⟩ rfl rfl hl.1 rfl (lv_room (Nat.le_of_ble_eq_true rfl)) d_law_1541 ⟨show cells + 8 + 0 ≤ 601024 by omega, show slots + 48 + 0 ≤ 7293034 by omega⟩) hS (fun q _ h => hFc q h) hFc (fun r_7 v9 t9 H1 locs ht hvm hw hB hz1 hk1 hS => ?_)
      obtain ⟨hP1, hK1, hD1⟩ := hB
      rw [ht] at hP1
      obtain ⟨hP, hD⟩ := va_joinQ (X := (jw_ws out cJ 1 of ++ (bb_ws b0 bd0 pr0 t0 au0 da (.ref g0) ++ (rw_ws da cJ (r8 u9.1.1 u9.1.2.1 u9.1.2.2.1 u9.1.2.2.2.1 u9.1.2.2.2.2.1 u9.1.2.2.2.2.2.1 u9.1.2.2.2.2.2.2.1 u9.1.2.2.2.2.2.2.2) ++ (bd_ws bd0 h0 ro lo n cR (rrf rb) (rrf lb) ++ (pr_ws pr0 h0 cm cJ u9.2.1 ++ (hu_ws h0 aw ax ay cJ cI u9.2.2 ++ (tt_ws t0 ka aa ba sa (.ref g0) cJ T ++ (au_ws au0 bd0 pr0 tu0 sd ++ (tt_ws tu0 uka uaa uba usa gu cJ T0 ++ (gp_ws g0 mF mE P f1 k1 Q f2 k2 G ++ (mo_ws m0 e0 (nI (t_tn T)) (nI n) (nI (t_bc T)) (lN P) (lN Q) (lN G) (lN (ckey (t_tn T) (t_kc T) (t_kp T))) (lN (t_pa T)) (lN (t_pb T)) (t_sht T) a0 a1 a2 a3 a4 a5 a6 a7 a8 a9 mb0 mb1 oc mb2 mb3 mb4 mb5 ++ (iw_ws a7 cI 256 bf ++ (iw_ws a8 cI 64 sc ++ (iw_ws a9 cI 8 st ++ (iw_ws mb0 cI 8 kS ++ (iw_ws mb1 cI 64 kR ++ (jw_ws a2 cJ 4 tf ++ (jw_ws a0 cJ 1232 nf ++ (jw_ws a1 cJ 616 cf ++ (iw_ws a4 cI 4 kf ++ (jw_ws mb2 cJ 4 ky ++ (jw_ws a3 cJ 16 lf ++ (iw_ws a5 cI 4 sf ++ (iw_ws a6 cI 64 vf ++ (jw_ws mb3 cJ 128 md ++ (jw_ws mb4 cJ 4 sh ++ iw_ws mb5 cI 64 ct))))))))))))))))))))))))))) (cx := (mo_ws m0 e0 (nI (t_tn T)) (nI n) (nI (t_bc T)) (lN P) (lN Q) (lN G) (lN (ckey (t_tn T) (t_kc T) (t_kp T))) (lN (t_pa T)) (lN (t_pb T)) (t_sht T) a0 a1 a2 a3 a4 a5 a6 a7 a8 a9 mb0 mb1 oc mb2 mb3 mb4 mb5 ++ (iw_ws a7 cI 256 bf ++ (iw_ws a8 cI 64 sc ++ (iw_ws a9 cI 8 st ++ (iw_ws mb0 cI 8 kS ++ (iw_ws mb1 cI 64 kR ++ (jw_ws a2 cJ 4 tf ++ (jw_ws a0 cJ 1232 nf ++ (jw_ws a1 cJ 616 cf ++ (iw_ws a5 cI 4 sf ++ (jw_ws mb4 cJ 4 sh ++ (jw_ws mb2 cJ 4 ky ++ jw_ws a3 cJ 16 lf))))))))))))) (wr := (jw_ws out cJ 1 of ++ (bb_ws b0 bd0 pr0 t0 au0 da (.ref g0) ++ (rw_ws da cJ (r8 u9.1.1 u9.1.2.1 u9.1.2.2.1 u9.1.2.2.2.1 u9.1.2.2.2.2.1 u9.1.2.2.2.2.2.1 u9.1.2.2.2.2.2.2.1 u9.1.2.2.2.2.2.2.2) ++ (bd_ws bd0 h0 ro lo n cR (rrf rb) (rrf lb) ++ (pr_ws pr0 h0 cm cJ u9.2.1 ++ (hu_ws h0 aw ax ay cJ cI u9.2.2 ++ (tt_ws t0 ka aa ba sa (.ref g0) cJ T ++ (au_ws au0 bd0 pr0 tu0 sd ++ (tt_ws tu0 uka uaa uba usa gu cJ T0 ++ (gp_ws g0 mF mE P f1 k1 Q f2 k2 G ++ (iw_ws a4 cI 4 kf ++ (iw_ws a6 cI 64 vf ++ (jw_ws mb3 cJ 128 md ++ iw_ws mb5 cI 64 ct)))))))))))))) (w1 := (mo_ws m0 2 (nI (t_tn T)) (nI n) (nI (t_bc T)) (lN P) (lN Q) (lN G) (lN (ckey (t_tn T) (t_kc T) (t_kp T))) (lN (t_pa T)) (lN (t_pb T)) (t_sht T) a0 a1 a2 a3 a4 a5 a6 a7 a8 a9 mb0 mb1 oc mb2 mb3 mb4 mb5 ++ (iw_ws a7 cI 256 bf ++ (iw_ws a8 cI 64 sc ++ (iw_ws a9 cI 8 st ++ (iw_ws mb0 cI 8 kS ++ (iw_ws mb1 cI 64 kR ++ (jw_ws a2 cJ 4 tf ++ (jw_ws a0 cJ 1232 nf ++ (jw_ws a1 cJ 616 cf ++ (iw_ws a5 cI 4 sf ++ (jw_ws mb4 cJ 4 sh ++ (jw_ws mb2 cJ 4 ky ++ jw_ws a3 cJ 16 lf))))))))))))) (pl := bpool rb lb cJ R Lk) hP hD [26, 27, 28, 29, 30, 31, 32, 33, 34, 38, 41, 36, 37] [0, 1, 2, 3, 4, 5, 6, 7, 8, 9, 10, 11, 12, 13, 14, 15, 16, 17, 18, 19, 20, 21, 22, 23, 24, 25, 35, 39, 40, 42] rfl rfl (by decide) (by decide) hk1 hFc hP1 hD1
      have hP := hP.part (cx := (jw_ws out cJ 1 of ++ (bb_ws b0 bd0 pr0 t0 au0 da (.ref g0) ++ (rw_ws da cJ (r8 u9.1.1 u9.1.2.1 u9.1.2.2.1 u9.1.2.2.2.1 u9.1.2.2.2.2.1 u9.1.2.2.2.2.2.1 u9.1.2.2.2.2.2.2.1 u9.1.2.2.2.2.2.2.2) ++ (bd_ws bd0 h0 ro lo n cR (rrf rb) (rrf lb) ++ (pr_ws pr0 h0 cm cJ u9.2.1 ++ (hu_ws h0 aw ax ay cJ cI u9.2.2 ++ (tt_ws t0 ka aa ba sa (.ref g0) cJ T ++ (au_ws au0 bd0 pr0 tu0 sd ++ (tt_ws tu0 uka uaa uba usa gu cJ T0 ++ (gp_ws g0 mF mE P f1 k1 Q f2 k2 G ++ (mo_ws m0 2 (nI (t_tn T)) (nI n) (nI (t_bc T)) (lN P) (lN Q) (lN G) (lN (ckey (t_tn T) (t_kc T) (t_kp T))) (lN (t_pa T)) (lN (t_pb T)) (t_sht T) a0 a1 a2 a3 a4 a5 a6 a7 a8 a9 mb0 mb1 oc mb2 mb3 mb4 mb5 ++ (iw_ws a7 cI 256 bf ++ (iw_ws a8 cI 64 sc ++ (iw_ws a9 cI 8 st ++ (iw_ws mb0 cI 8 kS ++ (iw_ws mb1 cI 64 kR ++ (jw_ws a2 cJ 4 tf ++ (jw_ws a0 cJ 1232 nf ++ (jw_ws a1 cJ 616 cf ++ (iw_ws a4 cI 4 kf ++ (jw_ws mb2 cJ 4 ky ++ (jw_ws a3 cJ 16 lf ++ (iw_ws a5 cI 4 sf ++ (iw_ws a6 cI 64 vf ++ (jw_ws mb3 cJ 128 md ++ (jw_ws mb4 cJ 4 sh ++ iw_ws mb5 cI 64 ct))))))))))))))))))))))))))) [0, 1, 2, 3, 4, 5, 6, 7, 8, 9, 10, 11, 12, 13, 14, 15, 16, 17, 18, 19, 20, 21, 22, 23, 24, 25, 30, 31, 32, 33, 34, 35, 36, 37, 38, 26, 41, 42, 39, 27, 28, 40, 29] rfl
      have hD := hD.part (cx := (jw_ws out cJ 1 of ++ (bb_ws b0 bd0 pr0 t0 au0 da (.ref g0) ++ (rw_ws da cJ (r8 u9.1.1 u9.1.2.1 u9.1.2.2.1 u9.1.2.2.2.1 u9.1.2.2.2.2.1 u9.1.2.2.2.2.2.1 u9.1.2.2.2.2.2.2.1 u9.1.2.2.2.2.2.2.2) ++ (bd_ws bd0 h0 ro lo n cR (rrf rb) (rrf lb) ++ (pr_ws pr0 h0 cm cJ u9.2.1 ++ (hu_ws h0 aw ax ay cJ cI u9.2.2 ++ (tt_ws t0 ka aa ba sa (.ref g0) cJ T ++ (au_ws au0 bd0 pr0 tu0 sd ++ (tt_ws tu0 uka uaa uba usa gu cJ T0 ++ (gp_ws g0 mF mE P f1 k1 Q f2 k2 G ++ (mo_ws m0 2 (nI (t_tn T)) (nI n) (nI (t_bc T)) (lN P) (lN Q) (lN G) (lN (ckey (t_tn T) (t_kc T) (t_kp T))) (lN (t_pa T)) (lN (t_pb T)) (t_sht T) a0 a1 a2 a3 a4 a5 a6 a7 a8 a9 mb0 mb1 oc mb2 mb3 mb4 mb5 ++ (iw_ws a7 cI 256 bf ++ (iw_ws a8 cI 64 sc ++ (iw_ws a9 cI 8 st ++ (iw_ws mb0 cI 8 kS ++ (iw_ws mb1 cI 64 kR ++ (jw_ws a2 cJ 4 tf ++ (jw_ws a0 cJ 1232 nf ++ (jw_ws a1 cJ 616 cf ++ (iw_ws a4 cI 4 kf ++ (jw_ws mb2 cJ 4 ky ++ (jw_ws a3 cJ 16 lf ++ (iw_ws a5 cI 4 sf ++ (iw_ws a6 cI 64 vf ++ (jw_ws mb3 cJ 128 md ++ (jw_ws mb4 cJ 4 sh ++ iw_ws mb5 cI 64 ct))))))))))))))))))))))))))) [0, 1, 2, 3, 4, 5, 6, 7, 8, 9, 10, 11, 12, 13, 14, 15, 16, 17, 18, 19, 20, 21, 22, 23, 24, 25, 30, 31, 32, 33, 34, 35, 36, 37, 38, 26, 41, 42, 39, 27, 28, 40, 29] (by decide) rfl
      generalize H1 = H at hP hS ⊢
      clear hPc hDc hFc hP1 hD1 hK1 ht hk1 hz1
      refine lv_istore (lv' := [(6, .int r_7), (5, .int 2), (4, .int (nI i)), (3, .ref out), (2, .ref m0), (1, .ref b0), (0, .ref b)]) hx hb d_law_1544 hl (by decide) rfl (fun ls hl => ?_)
      refine lv_aload_n hx hb d_law_1546 rfl (lv_at hl 4 rfl) ?_
      have hPc := hP.sub (ws' := (mo_ws m0 2 (nI (t_tn T)) (nI n) (nI (t_bc T)) (lN P) (lN Q) (lN G) (lN (ckey (t_tn T) (t_kc T) (t_kp T))) (lN (t_pa T)) (lN (t_pb T)) (t_sht T) a0 a1 a2 a3 a4 a5 a6 a7 a8 a9 mb0 mb1 oc mb2 mb3 mb4 mb5)) [26] rfl
      have hKc := hK.sub (tys' := [(cJ, .long), (cI, .int)]) [0, 1] rfl
      refine va_calli (va_runV (As := []) (rest := []) ⟨hx, hb, hml, hown, hts⟩ (c_Bm_thrown l H dC dI cJ cI m0 2 (nI (t_tn T)) (nI n) (nI (t_bc T)) (lN P) (lN Q) (lN G) (lN (ckey (t_tn T) (t_kc T) (t_kp T))) (lN (t_pa T)) (lN (t_pb T)) (t_sht T) a0 a1 a2 a3 a4 a5 a6 a7 a8 a9 mb0 mb1 oc mb2 mb3 mb4 mb5 hPc) (cwV 0 hts (gw_V gk_1004 gk_1005 gk_1006 gk_7 gk_1007) rfl rfl rfl (by decide +kernel) ⟨(Nat.le_of_ble_eq_true rfl), (Nat.le_of_ble_eq_true rfl)⟩) ⟨fun a U g mk q => ⟨q.1, q.2.1, va_K.moved (u := U) (U := U.calling g mk a) (Vm.Alike.refl U.vm) q.2.2⟩, va_recv hK hP (ci := 8) (q0 := 26) rfl rfl, fun U hU hW => ⟨rfl, hU, va_K.moved hW.alike hKc⟩⟩ rfl rfl hl.1 rfl (lv_room (Nat.le_of_ble_eq_true rfl)) d_law_1547 ⟨show cells + 8 + 0 + 0 ≤ 601024 by omega, show slots + 48 + 0 + 0 ≤ 7293034 by omega⟩) hS (fun q _ h => h.elim) (fun q h => h.elim) (fun r_8 w9 t9 H1 locs ht hvm hw9 hB hz1 hk1 hS => ?_)
      obtain rfl : H = H1 := hB.symm.trans ht
      have hw9 : r_8 = 2 := hw9
      subst hw9
      clear hPc hz1 hk1 hB
      refine lv_iload hx hb d_law_1550 (lv_at hl 1 rfl) ?_
      refine lv_icmp_eq (tgt := 1557) hx hb d_law_1552 (by decide) (fun c_9 => ?_) (fun c_9 => ?_)
      · -- taken
        refine lv_iload hx hb d_law_1557 (lv_at hl 1 rfl) ?_
        refine lv_if_ne (tgt := 1574) hx hb d_law_1559 (by decide) (fun c_10 => ?_) (fun c_10 => ?_)
        · -- taken
          refine lv_goto (tgt := 1965) hx hb d_law_1574 (by decide) ?_
          refine W.widen (k := cells + 20) (n := slots + 200) (by omega) (by omega) ?_
          have hI9 : LI dC dI cJ cI cR A out b0 m0 H := LG.mk hP hD hR
          exact cont _ _ _ hS hI9 (lv_sub hl [2, 3, 4, 5, 6] rfl)
        · -- not taken
          exact absurd c_10 (by decide)
      · -- not taken
        exact absurd c_9 (by decide)
    obtain ⟨⟨I, hxI, hI⟩, ⟨X1, hxX, hX9⟩, ⟨W1, hxW, hW9⟩⟩ := Classical.not_not.mp hC3
    have hcl1 : t_sht T = 1 := Classical.byContradiction (fun q => hC1 (Or.inl q))
    have hs0 : t_so T I = 0 := Classical.byContradiction (fun q => hC1 (Or.inr ⟨I, hxI, hI, q⟩))
    have hn1 : n < 154 := hnS I hI hs0
    have hn0 : 0 < n := hn0S hcl1
    have hh : ¬ shaHd P Q G (t_ko T I) (t_pa T) I (lN (t_pa T ^ X1 % P)) (lN (shcR P Q G (t_pa T) I X1 W1)) (lN ((W1 + (shcR P Q G (t_pa T) I X1 W1) * X1 % Q) % Q)) := fun q => hC2 ⟨I, X1, W1, hxI, hI, ⟨hxX, hX9⟩, ⟨hxW, hW9⟩, q⟩
    refine lv_aload_n hx hb d_law_1433 rfl (lv_at hl 3 rfl) ?_
    refine lv_aload_n hx hb d_law_1434 rfl (lv_at hl 4 rfl) ?_
    refine lv_iload hx hb d_law_1435 (lv_at hl 0 rfl) ?_
    refine lv_iconst (v := 1) hx hb d_law_1437 (by decide) ?_
    refine lv_iadd hx hb d_law_1438 ?_
    rw [show ((nI i) + 1 : Int32) = nI (i + 1) from nI_add _ 1]
    refine va_sld hx hb hX hbl hbA hS (vp_in_nI (by omega) (by omega)) d_law_1439 ?_
    rw [show (xs (nI (i + 1)).toNatClampNeg : Int32) = xs (i + 1) from by rw [nI_clamp (by omega)]]
    rw [show (xs (i + 1) : Int32) = x1 from hx1.symm]
    refine lv_aload_n hx hb d_law_1440 rfl (lv_at hl 4 rfl) ?_
    refine lv_iload hx hb d_law_1441 (lv_at hl 0 rfl) ?_
    refine lv_iconst (v := 2) hx hb d_law_1443 (by decide) ?_
    refine lv_iadd hx hb d_law_1444 ?_
    rw [show ((nI i) + 2 : Int32) = nI (i + 2) from nI_add _ 2]
    refine va_sld hx hb hX hbl hbA hS (vp_in_nI (by omega) (by omega)) d_law_1445 ?_
    rw [show (xs (nI (i + 2)).toNatClampNeg : Int32) = xs (i + 2) from by rw [nI_clamp (by omega)]]
    refine lv_i2l (v := (xs (i + 2) : Int32).toInt64) hx hb d_law_1446 rfl ?_
    refine lv_bipush (v := 32) hx hb d_law_1447 (by decide) ?_
    refine lv_lshl (v := ((xs (i + 2) : Int32).toInt64 : Int64) <<< ((32 : Int32).toInt64 &&& 63)) hx hb d_law_1449 rfl ?_
    refine lv_aload_n hx hb d_law_1450 rfl (lv_at hl 4 rfl) ?_
    refine lv_iload hx hb d_law_1451 (lv_at hl 0 rfl) ?_
    refine lv_iconst (v := 3) hx hb d_law_1453 (by decide) ?_
    refine lv_iadd hx hb d_law_1454 ?_
    rw [show ((nI i) + 3 : Int32) = nI (i + 3) from nI_add _ 3]
    refine va_sld hx hb hX hbl hbA hS (vp_in_nI (by omega) (by omega)) d_law_1455 ?_
    rw [show (xs (nI (i + 3)).toNatClampNeg : Int32) = xs (i + 3) from by rw [nI_clamp (by omega)]]
    refine lv_i2l (v := (xs (i + 3) : Int32).toInt64) hx hb d_law_1456 rfl ?_
    refine lv_ldc2 (v := 4294967295) hx hb hown (hts _ (List.mem_cons_of_mem _ gk_1202)) d_law_1457 ?_
    refine lv_land hx hb d_law_1460 ?_
    refine lv_lor hx hb d_law_1461 ?_
    rw [show ((((xs (i + 2) : Int32).toInt64 : Int64) <<< ((32 : Int32).toInt64 &&& 63)) ||| (((xs (i + 3) : Int32).toInt64) &&& 4294967295) : Int64) = x2 from hx2.symm]
    refine lv_aload_n hx hb d_law_1462 rfl (lv_at hl 4 rfl) ?_
    refine lv_iload hx hb d_law_1463 (lv_at hl 0 rfl) ?_
    refine lv_iconst (v := 4) hx hb d_law_1465 (by decide) ?_
    refine lv_iadd hx hb d_law_1466 ?_
    rw [show ((nI i) + 4 : Int32) = nI (i + 4) from nI_add _ 4]
    refine va_sld hx hb hX hbl hbA hS (vp_in_nI (by omega) (by omega)) d_law_1467 ?_
    rw [show (xs (nI (i + 4)).toNatClampNeg : Int32) = xs (i + 4) from by rw [nI_clamp (by omega)]]
    refine lv_i2l (v := (xs (i + 4) : Int32).toInt64) hx hb d_law_1468 rfl ?_
    refine lv_bipush (v := 32) hx hb d_law_1469 (by decide) ?_
    refine lv_lshl (v := ((xs (i + 4) : Int32).toInt64 : Int64) <<< ((32 : Int32).toInt64 &&& 63)) hx hb d_law_1471 rfl ?_
    refine lv_aload_n hx hb d_law_1472 rfl (lv_at hl 4 rfl) ?_
    refine lv_iload hx hb d_law_1473 (lv_at hl 0 rfl) ?_
    refine lv_iconst (v := 5) hx hb d_law_1475 (by decide) ?_
    refine lv_iadd hx hb d_law_1476 ?_
    rw [show ((nI i) + 5 : Int32) = nI (i + 5) from nI_add _ 5]
    refine va_sld hx hb hX hbl hbA hS (vp_in_nI (by omega) (by omega)) d_law_1477 ?_
    rw [show (xs (nI (i + 5)).toNatClampNeg : Int32) = xs (i + 5) from by rw [nI_clamp (by omega)]]
    refine lv_i2l (v := (xs (i + 5) : Int32).toInt64) hx hb d_law_1478 rfl ?_
    refine lv_ldc2 (v := 4294967295) hx hb hown (hts _ (List.mem_cons_of_mem _ gk_1202)) d_law_1479 ?_
    refine lv_land hx hb d_law_1482 ?_
    refine lv_lor hx hb d_law_1483 ?_
    rw [show ((((xs (i + 4) : Int32).toInt64 : Int64) <<< ((32 : Int32).toInt64 &&& 63)) ||| (((xs (i + 5) : Int32).toInt64) &&& 4294967295) : Int64) = x3 from hx3.symm]
    refine lv_aload_n hx hb d_law_1484 rfl (lv_at hl 1 rfl) ?_
    have hPc := hP.part (cx := (jw_ws out cJ 1 of ++ (bb_ws b0 bd0 pr0 t0 au0 da (.ref g0) ++ (rw_ws da cJ (r8 d0 d1 d2 d3 d4 d5 d6 d7) ++ (bd_ws bd0 h0 ro lo n cR (rrf rb) (rrf lb) ++ (pr_ws pr0 h0 cm cJ ccf ++ (ha_ws h0 aw ax ay cJ cI w csc cst cL ++ (tt_ws t0 ka aa ba sa (.ref g0) cJ T ++ gp_ws g0 mF mE P f1 k1 Q f2 k2 G)))))))) [0, 1, 2, 3, 4, 5, 6, 7, 8, 9, 10, 11, 12, 13, 14, 15, 16, 23, 24, 25] rfl
    have hDc := hD.part (cx := (jw_ws out cJ 1 of ++ (bb_ws b0 bd0 pr0 t0 au0 da (.ref g0) ++ (rw_ws da cJ (r8 d0 d1 d2 d3 d4 d5 d6 d7) ++ (bd_ws bd0 h0 ro lo n cR (rrf rb) (rrf lb) ++ (pr_ws pr0 h0 cm cJ ccf ++ (ha_ws h0 aw ax ay cJ cI w csc cst cL ++ (tt_ws t0 ka aa ba sa (.ref g0) cJ T ++ gp_ws g0 mF mE P f1 k1 Q f2 k2 G)))))))) [0, 1, 2, 3, 4, 5, 6, 7, 8, 9, 10, 11, 12, 13, 14, 15, 16, 23, 24, 25] (by decide) rfl
    have hKc := hK.sub (tys' := [(cJ, .long), (cI, .int), (cR, .array .long)]) [0, 1, 2] rfl
    have hFc := va_freeP (cx := (jw_ws out cJ 1 of ++ (bb_ws b0 bd0 pr0 t0 au0 da (.ref g0) ++ (rw_ws da cJ (r8 d0 d1 d2 d3 d4 d5 d6 d7) ++ (bd_ws bd0 h0 ro lo n cR (rrf rb) (rrf lb) ++ (pr_ws pr0 h0 cm cJ ccf ++ (ha_ws h0 aw ax ay cJ cI w csc cst cL ++ (tt_ws t0 ka aa ba sa (.ref g0) cJ T ++ gp_ws g0 mF mE P f1 k1 Q f2 k2 G)))))))) hD hS hA [0, 1, 2, 3, 4, 5, 6, 7, 8, 9, 10, 11, 12, 13, 14, 15, 16, 23, 24, 25] rfl
    have hZc0 : ha_Z rA sA (va_A ((jw_ws out cJ 1 of ++ (bb_ws b0 bd0 pr0 t0 au0 da (.ref g0) ++ (rw_ws da cJ (r8 d0 d1 d2 d3 d4 d5 d6 d7) ++ (bd_ws bd0 h0 ro lo n cR (rrf rb) (rrf lb) ++ (pr_ws pr0 h0 cm cJ ccf ++ (ha_ws h0 aw ax ay cJ cI w csc cst cL ++ (tt_ws t0 ka aa ba sa (.ref g0) cJ T ++ gp_ws g0 mF mE P f1 k1 Q f2 k2 G))))))) ++ bpool rb lb cJ R Lk) H.size) s H := (hZha.kept hS.2.1).narrow hFc
    have hZc1 : xz (va_A ((jw_ws out cJ 1 of ++ (bb_ws b0 bd0 pr0 t0 au0 da (.ref g0) ++ (rw_ws da cJ (r8 d0 d1 d2 d3 d4 d5 d6 d7) ++ (bd_ws bd0 h0 ro lo n cR (rrf rb) (rrf lb) ++ (pr_ws pr0 h0 cm cJ ccf ++ (ha_ws h0 aw ax ay cJ cI w csc cst cL ++ (tt_ws t0 ka aa ba sa (.ref g0) cJ T ++ gp_ws g0 mF mE P f1 k1 Q f2 k2 G))))))) ++ bpool rb lb cJ R Lk) H.size) s H := (hZx.kept hS.2.1).narrow hFc
    have hZc2 : nc_Z s := hZn
    refine vx_calli (vx_runSX (hh := h_Lw_makeShare) (As := [.ref b0, .int x1, .long x2, .long x3, .ref out]) (rest := []) ⟨hx, hb, hml, hown, hts⟩ (c_Lw_makeShare_2 l hnt dC dI cJ cI cR H.size b0 bd0 pr0 t0 au0 da h0 ro lo n rb lb cm ccf aw ax ay w csc cst cL ka aa ba sa T g0 mF mE P f1 k1 Q f2 k2 G rA sA R Lk d0 d1 d2 d3 d4 d5 d6 d7 x1 x2 x3 out of hok htok hN0 htn hkc hn hnS hn0S hC1 hC2) (vx_cwSW 5 hts (gw_Sv gk_723 gk_724 gk_0 gk_725) rfl rfl rfl (by decide +kernel) ⟨(Nat.le_of_ble_eq_true rfl), (Nat.le_of_ble_eq_true rfl)⟩) ⟨fun a U g mk q => by obtain ⟨q0, q1, qP, qK, qD, qZ0, qZ1, qZ2⟩ := q; exact ⟨q0, q1, qP, va_K.moved (u := U) (U := U.calling g mk a) (Vm.Alike.refl U.vm) qK, qD, ha_Z.moved (u := U) (U := U.calling g mk a) (Vm.Alike.refl U.vm) qZ0, xz.same (u := U) (U := U.calling g mk a) rfl qZ1, nc_Z.moved (u := U) (U := U.calling g mk a) (Vm.Alike.refl U.vm) qZ2⟩, fun U hU hW => ⟨rfl, by rw [hU], by rw [hU]; exact hPc, va_K.moved hW.alike hKc, hDc.weaken (fun _ _ _ _ => trivial), by rw [hU]; exact ha_Z.moved hW.alike hZc0, by rw [hU]; exact xz.warm hW hZc1, nc_Z.moved hW.alike hZc2⟩⟩ rfl rfl hl.1 rfl (lv_room (Nat.le_of_ble_eq_true rfl)) d_law_1485 ⟨show cells + 8 ≤ 601024 by omega, show slots + 48 ≤ 7293034 by omega⟩) hS (fun q _ h => hFc q h) hFc (fun q _ h => hFc q h) (fun E9 ce9 q9 u8 t9 H1 locs ht hvm hpx hbx hz1 hk1 hS hce hcv hcl => hpx.elim) (fun r_11 u9 t9 H1 locs ht hvm hw hB hz1 hk1 hS => ?_)
    obtain ⟨hP1, hK1, hD1⟩ := hB
    rw [ht] at hP1
    obtain ⟨hP, hD⟩ := va_joinP (X := (jw_ws out cJ 1 of ++ (bb_ws b0 bd0 pr0 t0 au0 da (.ref g0) ++ (rw_ws da cJ (r8 d0 d1 d2 d3 d4 d5 d6 d7) ++ (bd_ws bd0 h0 ro lo n cR (rrf rb) (rrf lb) ++ (pr_ws pr0 h0 cm cJ ccf ++ (ha_ws h0 aw ax ay cJ cI w csc cst cL ++ (tt_ws t0 ka aa ba sa (.ref g0) cJ T ++ (au_ws au0 bd0 pr0 tu0 sd ++ (tt_ws tu0 uka uaa uba usa gu cJ T0 ++ (gp_ws g0 mF mE P f1 k1 Q f2 k2 G ++ (mo_ws m0 e0 (nI (t_tn T)) (nI n) (nI (t_bc T)) (lN P) (lN Q) (lN G) (lN (ckey (t_tn T) (t_kc T) (t_kp T))) (lN (t_pa T)) (lN (t_pb T)) (t_sht T) a0 a1 a2 a3 a4 a5 a6 a7 a8 a9 mb0 mb1 oc mb2 mb3 mb4 mb5 ++ (iw_ws a7 cI 256 bf ++ (iw_ws a8 cI 64 sc ++ (iw_ws a9 cI 8 st ++ (iw_ws mb0 cI 8 kS ++ (iw_ws mb1 cI 64 kR ++ (jw_ws a2 cJ 4 tf ++ (jw_ws a0 cJ 1232 nf ++ (jw_ws a1 cJ 616 cf ++ (iw_ws a4 cI 4 kf ++ (jw_ws mb2 cJ 4 ky ++ (jw_ws a3 cJ 16 lf ++ (iw_ws a5 cI 4 sf ++ (iw_ws a6 cI 64 vf ++ (jw_ws mb3 cJ 128 md ++ (jw_ws mb4 cJ 4 sh ++ iw_ws mb5 cI 64 ct))))))))))))))))))))))))))) (cx := (jw_ws out cJ 1 of ++ (bb_ws b0 bd0 pr0 t0 au0 da (.ref g0) ++ (rw_ws da cJ (r8 d0 d1 d2 d3 d4 d5 d6 d7) ++ (bd_ws bd0 h0 ro lo n cR (rrf rb) (rrf lb) ++ (pr_ws pr0 h0 cm cJ ccf ++ (ha_ws h0 aw ax ay cJ cI w csc cst cL ++ (tt_ws t0 ka aa ba sa (.ref g0) cJ T ++ gp_ws g0 mF mE P f1 k1 Q f2 k2 G)))))))) (wr := (au_ws au0 bd0 pr0 tu0 sd ++ (tt_ws tu0 uka uaa uba usa gu cJ T0 ++ (mo_ws m0 e0 (nI (t_tn T)) (nI n) (nI (t_bc T)) (lN P) (lN Q) (lN G) (lN (ckey (t_tn T) (t_kc T) (t_kp T))) (lN (t_pa T)) (lN (t_pb T)) (t_sht T) a0 a1 a2 a3 a4 a5 a6 a7 a8 a9 mb0 mb1 oc mb2 mb3 mb4 mb5 ++ (iw_ws a7 cI 256 bf ++ (iw_ws a8 cI 64 sc ++ (iw_ws a9 cI 8 st ++ (iw_ws mb0 cI 8 kS ++ (iw_ws mb1 cI 64 kR ++ (jw_ws a2 cJ 4 tf ++ (jw_ws a0 cJ 1232 nf ++ (jw_ws a1 cJ 616 cf ++ (iw_ws a4 cI 4 kf ++ (jw_ws mb2 cJ 4 ky ++ (jw_ws a3 cJ 16 lf ++ (iw_ws a5 cI 4 sf ++ (iw_ws a6 cI 64 vf ++ (jw_ws mb3 cJ 128 md ++ (jw_ws mb4 cJ 4 sh ++ iw_ws mb5 cI 64 ct))))))))))))))))))) (rx := (jw_ws out cJ 1 of ++ (bb_ws b0 bd0 pr0 t0 au0 da (.ref g0) ++ (rw_ws da cJ (r8 u9.1.1 u9.1.2.1 u9.1.2.2.1 u9.1.2.2.2.1 u9.1.2.2.2.2.1 u9.1.2.2.2.2.2.1 u9.1.2.2.2.2.2.2.1 u9.1.2.2.2.2.2.2.2) ++ (bd_ws bd0 h0 ro lo n cR (rrf rb) (rrf lb) ++ (pr_ws pr0 h0 cm cJ u9.2.1 ++ (hu_ws h0 aw ax ay cJ cI u9.2.2 ++ (tt_ws t0 ka aa ba sa (.ref g0) cJ T ++ gp_ws g0 mF mE P f1 k1 Q f2 k2 G)))))))) (pl := bpool rb lb cJ R Lk) (pl1 := bpool rb lb cJ R Lk) hP hD [0, 1, 2, 3, 4, 5, 6, 7, 8, 9, 10, 11, 12, 13, 14, 15, 16, 23, 24, 25] [17, 18, 19, 20, 21, 22, 26, 27, 28, 29, 30, 31, 32, 33, 34, 35, 36, 37, 38, 39, 40, 41, 42] rfl rfl (by decide) (by decide) hk1 hFc hP1 hD1
    have hP := hP.part (cx := (jw_ws out cJ 1 of ++ (bb_ws b0 bd0 pr0 t0 au0 da (.ref g0) ++ (rw_ws da cJ (r8 u9.1.1 u9.1.2.1 u9.1.2.2.1 u9.1.2.2.2.1 u9.1.2.2.2.2.1 u9.1.2.2.2.2.2.1 u9.1.2.2.2.2.2.2.1 u9.1.2.2.2.2.2.2.2) ++ (bd_ws bd0 h0 ro lo n cR (rrf rb) (rrf lb) ++ (pr_ws pr0 h0 cm cJ u9.2.1 ++ (hu_ws h0 aw ax ay cJ cI u9.2.2 ++ (tt_ws t0 ka aa ba sa (.ref g0) cJ T ++ (au_ws au0 bd0 pr0 tu0 sd ++ (tt_ws tu0 uka uaa uba usa gu cJ T0 ++ (gp_ws g0 mF mE P f1 k1 Q f2 k2 G ++ (mo_ws m0 e0 (nI (t_tn T)) (nI n) (nI (t_bc T)) (lN P) (lN Q) (lN G) (lN (ckey (t_tn T) (t_kc T) (t_kp T))) (lN (t_pa T)) (lN (t_pb T)) (t_sht T) a0 a1 a2 a3 a4 a5 a6 a7 a8 a9 mb0 mb1 oc mb2 mb3 mb4 mb5 ++ (iw_ws a7 cI 256 bf ++ (iw_ws a8 cI 64 sc ++ (iw_ws a9 cI 8 st ++ (iw_ws mb0 cI 8 kS ++ (iw_ws mb1 cI 64 kR ++ (jw_ws a2 cJ 4 tf ++ (jw_ws a0 cJ 1232 nf ++ (jw_ws a1 cJ 616 cf ++ (iw_ws a4 cI 4 kf ++ (jw_ws mb2 cJ 4 ky ++ (jw_ws a3 cJ 16 lf ++ (iw_ws a5 cI 4 sf ++ (iw_ws a6 cI 64 vf ++ (jw_ws mb3 cJ 128 md ++ (jw_ws mb4 cJ 4 sh ++ iw_ws mb5 cI 64 ct))))))))))))))))))))))))))) [23, 24, 25, 26, 27, 28, 29, 30, 31, 32, 33, 34, 35, 36, 37, 38, 39, 0, 1, 2, 3, 4, 5, 40, 41, 42, 6, 7, 8, 9, 10, 11, 12, 13, 14, 15, 16, 17, 18, 19, 20, 21, 22] rfl
    have hD := hD.part (cx := (jw_ws out cJ 1 of ++ (bb_ws b0 bd0 pr0 t0 au0 da (.ref g0) ++ (rw_ws da cJ (r8 u9.1.1 u9.1.2.1 u9.1.2.2.1 u9.1.2.2.2.1 u9.1.2.2.2.2.1 u9.1.2.2.2.2.2.1 u9.1.2.2.2.2.2.2.1 u9.1.2.2.2.2.2.2.2) ++ (bd_ws bd0 h0 ro lo n cR (rrf rb) (rrf lb) ++ (pr_ws pr0 h0 cm cJ u9.2.1 ++ (hu_ws h0 aw ax ay cJ cI u9.2.2 ++ (tt_ws t0 ka aa ba sa (.ref g0) cJ T ++ (au_ws au0 bd0 pr0 tu0 sd ++ (tt_ws tu0 uka uaa uba usa gu cJ T0 ++ (gp_ws g0 mF mE P f1 k1 Q f2 k2 G ++ (mo_ws m0 e0 (nI (t_tn T)) (nI n) (nI (t_bc T)) (lN P) (lN Q) (lN G) (lN (ckey (t_tn T) (t_kc T) (t_kp T))) (lN (t_pa T)) (lN (t_pb T)) (t_sht T) a0 a1 a2 a3 a4 a5 a6 a7 a8 a9 mb0 mb1 oc mb2 mb3 mb4 mb5 ++ (iw_ws a7 cI 256 bf ++ (iw_ws a8 cI 64 sc ++ (iw_ws a9 cI 8 st ++ (iw_ws mb0 cI 8 kS ++ (iw_ws mb1 cI 64 kR ++ (jw_ws a2 cJ 4 tf ++ (jw_ws a0 cJ 1232 nf ++ (jw_ws a1 cJ 616 cf ++ (iw_ws a4 cI 4 kf ++ (jw_ws mb2 cJ 4 ky ++ (jw_ws a3 cJ 16 lf ++ (iw_ws a5 cI 4 sf ++ (iw_ws a6 cI 64 vf ++ (jw_ws mb3 cJ 128 md ++ (jw_ws mb4 cJ 4 sh ++ iw_ws mb5 cI 64 ct))))))))))))))))))))))))))) [23, 24, 25, 26, 27, 28, 29, 30, 31, 32, 33, 34, 35, 36, 37, 38, 39, 0, 1, 2, 3, 4, 5, 40, 41, 42, 6, 7, 8, 9, 10, 11, 12, 13, 14, 15, 16, 17, 18, 19, 20, 21, 22] (by decide) rfl
    generalize H1 = H at hP hS ⊢
    clear hPc hDc hFc hP1 hD1 hK1 ht hk1 hz1
    have hr9 : r_11 = 2 := hw
    subst hr9
    refine lv_istore (lv' := [(5, .int 2), (4, .int (nI i)), (3, .ref out), (2, .ref m0), (1, .ref b0), (0, .ref b)]) hx hb d_law_1488 hl (by decide) rfl (fun ls hl => ?_)
    refine lv_aload_n hx hb d_law_1490 rfl (lv_at hl 3 rfl) ?_
    refine lv_aload_n hx hb d_law_1491 rfl (lv_at hl 5 rfl) ?_
    refine lv_iload hx hb d_law_1492 (lv_at hl 1 rfl) ?_
    refine lv_iconst (v := 1) hx hb d_law_1494 (by decide) ?_
    refine lv_iadd hx hb d_law_1495 ?_
    rw [show ((nI i) + 1 : Int32) = nI (i + 1) from nI_add _ 1]
    refine va_sld hx hb hX hbl hbA hS (vp_in_nI (by omega) (by omega)) d_law_1496 ?_
    rw [show (xs (nI (i + 1)).toNatClampNeg : Int32) = xs (i + 1) from by rw [nI_clamp (by omega)]]
    rw [show (xs (i + 1) : Int32) = nI I from (hx1.symm.trans hxI)]
    refine lv_aload_n hx hb d_law_1497 rfl (lv_at hl 5 rfl) ?_
    refine lv_iload hx hb d_law_1498 (lv_at hl 1 rfl) ?_
    refine lv_iconst (v := 2) hx hb d_law_1500 (by decide) ?_
    refine lv_iadd hx hb d_law_1501 ?_
    rw [show ((nI i) + 2 : Int32) = nI (i + 2) from nI_add _ 2]
    refine va_sld hx hb hX hbl hbA hS (vp_in_nI (by omega) (by omega)) d_law_1502 ?_
    rw [show (xs (nI (i + 2)).toNatClampNeg : Int32) = xs (i + 2) from by rw [nI_clamp (by omega)]]
    refine lv_i2l (v := (xs (i + 2) : Int32).toInt64) hx hb d_law_1503 rfl ?_
    refine lv_bipush (v := 32) hx hb d_law_1504 (by decide) ?_
    refine lv_lshl (v := ((xs (i + 2) : Int32).toInt64 : Int64) <<< ((32 : Int32).toInt64 &&& 63)) hx hb d_law_1506 rfl ?_
    refine lv_aload_n hx hb d_law_1507 rfl (lv_at hl 5 rfl) ?_
    refine lv_iload hx hb d_law_1508 (lv_at hl 1 rfl) ?_
    refine lv_iconst (v := 3) hx hb d_law_1510 (by decide) ?_
    refine lv_iadd hx hb d_law_1511 ?_
    rw [show ((nI i) + 3 : Int32) = nI (i + 3) from nI_add _ 3]
    refine va_sld hx hb hX hbl hbA hS (vp_in_nI (by omega) (by omega)) d_law_1512 ?_
    rw [show (xs (nI (i + 3)).toNatClampNeg : Int32) = xs (i + 3) from by rw [nI_clamp (by omega)]]
    refine lv_i2l (v := (xs (i + 3) : Int32).toInt64) hx hb d_law_1513 rfl ?_
    refine lv_ldc2 (v := 4294967295) hx hb hown (hts _ (List.mem_cons_of_mem _ gk_1202)) d_law_1514 ?_
    refine lv_land hx hb d_law_1517 ?_
    refine lv_lor hx hb d_law_1518 ?_
    rw [show ((((xs (i + 2) : Int32).toInt64 : Int64) <<< ((32 : Int32).toInt64 &&& 63)) ||| (((xs (i + 3) : Int32).toInt64) &&& 4294967295) : Int64) = lN X1 from (hx2.symm.trans hxX)]
    refine lv_aload_n hx hb d_law_1519 rfl (lv_at hl 5 rfl) ?_
    refine lv_iload hx hb d_law_1520 (lv_at hl 1 rfl) ?_
    refine lv_iconst (v := 4) hx hb d_law_1522 (by decide) ?_
    refine lv_iadd hx hb d_law_1523 ?_
    rw [show ((nI i) + 4 : Int32) = nI (i + 4) from nI_add _ 4]
    refine va_sld hx hb hX hbl hbA hS (vp_in_nI (by omega) (by omega)) d_law_1524 ?_
    rw [show (xs (nI (i + 4)).toNatClampNeg : Int32) = xs (i + 4) from by rw [nI_clamp (by omega)]]
    refine lv_i2l (v := (xs (i + 4) : Int32).toInt64) hx hb d_law_1525 rfl ?_
    refine lv_bipush (v := 32) hx hb d_law_1526 (by decide) ?_
    refine lv_lshl (v := ((xs (i + 4) : Int32).toInt64 : Int64) <<< ((32 : Int32).toInt64 &&& 63)) hx hb d_law_1528 rfl ?_
    refine lv_aload_n hx hb d_law_1529 rfl (lv_at hl 5 rfl) ?_
    refine lv_iload hx hb d_law_1530 (lv_at hl 1 rfl) ?_
    refine lv_iconst (v := 5) hx hb d_law_1532 (by decide) ?_
    refine lv_iadd hx hb d_law_1533 ?_
    rw [show ((nI i) + 5 : Int32) = nI (i + 5) from nI_add _ 5]
    refine va_sld hx hb hX hbl hbA hS (vp_in_nI (by omega) (by omega)) d_law_1534 ?_
    rw [show (xs (nI (i + 5)).toNatClampNeg : Int32) = xs (i + 5) from by rw [nI_clamp (by omega)]]
    refine lv_i2l (v := (xs (i + 5) : Int32).toInt64) hx hb d_law_1535 rfl ?_
    refine lv_ldc2 (v := 4294967295) hx hb hown (hts _ (List.mem_cons_of_mem _ gk_1202)) d_law_1536 ?_
    refine lv_land hx hb d_law_1539 ?_
    refine lv_lor hx hb d_law_1540 ?_
    rw [show ((((xs (i + 4) : Int32).toInt64 : Int64) <<< ((32 : Int32).toInt64 &&& 63)) ||| (((xs (i + 5) : Int32).toInt64) &&& 4294967295) : Int64) = lN W1 from (hx3.symm.trans hxW)]
    have hPc := hP.sub (ws' := (mo_ws m0 e0 (nI (t_tn T)) (nI n) (nI (t_bc T)) (lN P) (lN Q) (lN G) (lN (ckey (t_tn T) (t_kc T) (t_kp T))) (lN (t_pa T)) (lN (t_pb T)) (t_sht T) a0 a1 a2 a3 a4 a5 a6 a7 a8 a9 mb0 mb1 oc mb2 mb3 mb4 mb5 ++ (iw_ws a7 cI 256 bf ++ (iw_ws a8 cI 64 sc ++ (iw_ws a9 cI 8 st ++ (iw_ws mb0 cI 8 kS ++ (iw_ws mb1 cI 64 kR ++ (jw_ws a2 cJ 4 tf ++ (jw_ws a0 cJ 1232 nf ++ (jw_ws a1 cJ 616 cf ++ (iw_ws a5 cI 4 sf ++ (jw_ws mb4 cJ 4 sh ++ (jw_ws mb2 cJ 4 ky ++ jw_ws a3 cJ 16 lf))))))))))))) [26, 27, 28, 29, 30, 31, 32, 33, 34, 38, 41, 36, 37] rfl
    have hDc := hD.sub (ws' := (mo_ws m0 e0 (nI (t_tn T)) (nI n) (nI (t_bc T)) (lN P) (lN Q) (lN G) (lN (ckey (t_tn T) (t_kc T) (t_kp T))) (lN (t_pa T)) (lN (t_pb T)) (t_sht T) a0 a1 a2 a3 a4 a5 a6 a7 a8 a9 mb0 mb1 oc mb2 mb3 mb4 mb5 ++ (iw_ws a7 cI 256 bf ++ (iw_ws a8 cI 64 sc ++ (iw_ws a9 cI 8 st ++ (iw_ws mb0 cI 8 kS ++ (iw_ws mb1 cI 64 kR ++ (jw_ws a2 cJ 4 tf ++ (jw_ws a0 cJ 1232 nf ++ (jw_ws a1 cJ 616 cf ++ (iw_ws a5 cI 4 sf ++ (jw_ws mb4 cJ 4 sh ++ (jw_ws mb2 cJ 4 ky ++ jw_ws a3 cJ 16 lf))))))))))))) [26, 27, 28, 29, 30, 31, 32, 33, 34, 38, 41, 36, 37] (by decide) rfl
    have hKc := hK.sub (tys' := [(cJ, .long), (cI, .int)]) [0, 1] rfl
    have hFc := va_free (wc := (mo_ws m0 e0 (nI (t_tn T)) (nI n) (nI (t_bc T)) (lN P) (lN Q) (lN G) (lN (ckey (t_tn T) (t_kc T) (t_kp T))) (lN (t_pa T)) (lN (t_pb T)) (t_sht T) a0 a1 a2 a3 a4 a5 a6 a7 a8 a9 mb0 mb1 oc mb2 mb3 mb4 mb5 ++ (iw_ws a7 cI 256 bf ++ (iw_ws a8 cI 64 sc ++ (iw_ws a9 cI 8 st ++ (iw_ws mb0 cI 8 kS ++ (iw_ws mb1 cI 64 kR ++ (jw_ws a2 cJ 4 tf ++ (jw_ws a0 cJ 1232 nf ++ (jw_ws a1 cJ 616 cf ++ (iw_ws a5 cI 4 sf ++ (jw_ws mb4 cJ 4 sh ++ (jw_ws mb2 cJ 4 ky ++ jw_ws a3 cJ 16 lf))))))))))))) hD hS hA [26, 27, 28, 29, 30, 31, 32, 33, 34, 38, 41, 36, 37] rfl
    refine va_calli (va_runV (As := [.int (nI I), .long (lN X1), .long (lN W1)]) (rest := []) ⟨hx, hb, hml, hown, hts⟩ (c_Bm_makeShare_3 l dC dI cJ cI H.size m0 e0 (t_tn T) n (t_bc T) P Q G (ckey (t_tn T) (t_kc T) (t_kp T)) (t_pa T) (t_pb T) (t_sht T) a0 a1 a2 a3 a4 a5 a6 a7 a8 a9 mb0 mb1 oc mb2 mb3 mb4 mb5 bf sc st sf tf nf cf sh ky lf (t_so T) (t_ko T) I X1 W1 htn hgr hsh0 hclN hn hrs hky hpa hcl1 hI hs0 hn1 hn0 hX9 hW9 hh) (cwV 3 hts (gw_V gk_1166 gk_1167 gk_1168 gk_7 gk_1169) rfl rfl rfl (by decide +kernel) ⟨(Nat.le_of_ble_eq_true rfl), (Nat.le_of_ble_eq_true rfl)⟩) ⟨fun a U g mk q => by obtain ⟨q0, q1, qP, qK, qD⟩ := q; exact ⟨q0, q1, qP, va_K.moved (u := U) (U := U.calling g mk a) (Vm.Alike.refl U.vm) qK, qD⟩, va_recv hK hP (ci := 8) (q0 := 26) rfl rfl, fun U hU hW => ⟨rfl, by rw [hU], by rw [hU]; exact hPc, va_K.moved hW.alike hKc, hDc.weaken (fun _ _ _ _ => trivial)⟩⟩ rfl rfl hl.1 rfl (lv_room (Nat.le_of_ble_eq_true rfl)) d_law_1541 ⟨show cells + 8 + 0 ≤ 601024 by omega, show slots + 48 + 0 ≤ 7293034 by omega⟩) hS (fun q _ h => hFc q h) hFc (fun r_12 v9 t9 H1 locs ht hvm hw hB hz1 hk1 hS => ?_)
    obtain ⟨hP1, hK1, hD1⟩ := hB
    rw [ht] at hP1
    obtain ⟨hP, hD⟩ := va_joinQ (X := (jw_ws out cJ 1 of ++ (bb_ws b0 bd0 pr0 t0 au0 da (.ref g0) ++ (rw_ws da cJ (r8 u9.1.1 u9.1.2.1 u9.1.2.2.1 u9.1.2.2.2.1 u9.1.2.2.2.2.1 u9.1.2.2.2.2.2.1 u9.1.2.2.2.2.2.2.1 u9.1.2.2.2.2.2.2.2) ++ (bd_ws bd0 h0 ro lo n cR (rrf rb) (rrf lb) ++ (pr_ws pr0 h0 cm cJ u9.2.1 ++ (hu_ws h0 aw ax ay cJ cI u9.2.2 ++ (tt_ws t0 ka aa ba sa (.ref g0) cJ T ++ (au_ws au0 bd0 pr0 tu0 sd ++ (tt_ws tu0 uka uaa uba usa gu cJ T0 ++ (gp_ws g0 mF mE P f1 k1 Q f2 k2 G ++ (mo_ws m0 e0 (nI (t_tn T)) (nI n) (nI (t_bc T)) (lN P) (lN Q) (lN G) (lN (ckey (t_tn T) (t_kc T) (t_kp T))) (lN (t_pa T)) (lN (t_pb T)) (t_sht T) a0 a1 a2 a3 a4 a5 a6 a7 a8 a9 mb0 mb1 oc mb2 mb3 mb4 mb5 ++ (iw_ws a7 cI 256 bf ++ (iw_ws a8 cI 64 sc ++ (iw_ws a9 cI 8 st ++ (iw_ws mb0 cI 8 kS ++ (iw_ws mb1 cI 64 kR ++ (jw_ws a2 cJ 4 tf ++ (jw_ws a0 cJ 1232 nf ++ (jw_ws a1 cJ 616 cf ++ (iw_ws a4 cI 4 kf ++ (jw_ws mb2 cJ 4 ky ++ (jw_ws a3 cJ 16 lf ++ (iw_ws a5 cI 4 sf ++ (iw_ws a6 cI 64 vf ++ (jw_ws mb3 cJ 128 md ++ (jw_ws mb4 cJ 4 sh ++ iw_ws mb5 cI 64 ct))))))))))))))))))))))))))) (cx := (mo_ws m0 e0 (nI (t_tn T)) (nI n) (nI (t_bc T)) (lN P) (lN Q) (lN G) (lN (ckey (t_tn T) (t_kc T) (t_kp T))) (lN (t_pa T)) (lN (t_pb T)) (t_sht T) a0 a1 a2 a3 a4 a5 a6 a7 a8 a9 mb0 mb1 oc mb2 mb3 mb4 mb5 ++ (iw_ws a7 cI 256 bf ++ (iw_ws a8 cI 64 sc ++ (iw_ws a9 cI 8 st ++ (iw_ws mb0 cI 8 kS ++ (iw_ws mb1 cI 64 kR ++ (jw_ws a2 cJ 4 tf ++ (jw_ws a0 cJ 1232 nf ++ (jw_ws a1 cJ 616 cf ++ (iw_ws a5 cI 4 sf ++ (jw_ws mb4 cJ 4 sh ++ (jw_ws mb2 cJ 4 ky ++ jw_ws a3 cJ 16 lf))))))))))))) (wr := (jw_ws out cJ 1 of ++ (bb_ws b0 bd0 pr0 t0 au0 da (.ref g0) ++ (rw_ws da cJ (r8 u9.1.1 u9.1.2.1 u9.1.2.2.1 u9.1.2.2.2.1 u9.1.2.2.2.2.1 u9.1.2.2.2.2.2.1 u9.1.2.2.2.2.2.2.1 u9.1.2.2.2.2.2.2.2) ++ (bd_ws bd0 h0 ro lo n cR (rrf rb) (rrf lb) ++ (pr_ws pr0 h0 cm cJ u9.2.1 ++ (hu_ws h0 aw ax ay cJ cI u9.2.2 ++ (tt_ws t0 ka aa ba sa (.ref g0) cJ T ++ (au_ws au0 bd0 pr0 tu0 sd ++ (tt_ws tu0 uka uaa uba usa gu cJ T0 ++ (gp_ws g0 mF mE P f1 k1 Q f2 k2 G ++ (iw_ws a4 cI 4 kf ++ (iw_ws a6 cI 64 vf ++ (jw_ws mb3 cJ 128 md ++ iw_ws mb5 cI 64 ct)))))))))))))) (w1 := (mo_ws m0 2 (nI (t_tn T)) (nI n) (nI (t_bc T)) (lN P) (lN Q) (lN G) (lN (ckey (t_tn T) (t_kc T) (t_kp T))) (lN (t_pa T)) (lN (t_pb T)) (t_sht T) a0 a1 a2 a3 a4 a5 a6 a7 a8 a9 mb0 mb1 v9.1.2.2.2.2 mb2 mb3 mb4 mb5 ++ (iw_ws a7 cI 256 v9.1.1 ++ (iw_ws a8 cI 64 v9.1.2.1 ++ (iw_ws a9 cI 8 v9.1.2.2.1 ++ (iw_ws mb0 cI 8 kS ++ (iw_ws mb1 cI 64 kR ++ (jw_ws a2 cJ 4 v9.1.2.2.2.1 ++ (jw_ws a0 cJ 1232 nf ++ (jw_ws a1 cJ 616 cf ++ (iw_ws a5 cI 4 sf ++ (jw_ws mb4 cJ 4 sh ++ (jw_ws mb2 cJ 4 ky ++ jw_ws a3 cJ 16 v9.2))))))))))))) (pl := bpool rb lb cJ R Lk) hP hD [26, 27, 28, 29, 30, 31, 32, 33, 34, 38, 41, 36, 37] [0, 1, 2, 3, 4, 5, 6, 7, 8, 9, 10, 11, 12, 13, 14, 15, 16, 17, 18, 19, 20, 21, 22, 23, 24, 25, 35, 39, 40, 42] rfl rfl (by decide) (by decide) hk1 hFc hP1 hD1
    have hP := hP.part (cx := (jw_ws out cJ 1 of ++ (bb_ws b0 bd0 pr0 t0 au0 da (.ref g0) ++ (rw_ws da cJ (r8 u9.1.1 u9.1.2.1 u9.1.2.2.1 u9.1.2.2.2.1 u9.1.2.2.2.2.1 u9.1.2.2.2.2.2.1 u9.1.2.2.2.2.2.2.1 u9.1.2.2.2.2.2.2.2) ++ (bd_ws bd0 h0 ro lo n cR (rrf rb) (rrf lb) ++ (pr_ws pr0 h0 cm cJ u9.2.1 ++ (hu_ws h0 aw ax ay cJ cI u9.2.2 ++ (tt_ws t0 ka aa ba sa (.ref g0) cJ T ++ (au_ws au0 bd0 pr0 tu0 sd ++ (tt_ws tu0 uka uaa uba usa gu cJ T0 ++ (gp_ws g0 mF mE P f1 k1 Q f2 k2 G ++ (mo_ws m0 2 (nI (t_tn T)) (nI n) (nI (t_bc T)) (lN P) (lN Q) (lN G) (lN (ckey (t_tn T) (t_kc T) (t_kp T))) (lN (t_pa T)) (lN (t_pb T)) (t_sht T) a0 a1 a2 a3 a4 a5 a6 a7 a8 a9 mb0 mb1 v9.1.2.2.2.2 mb2 mb3 mb4 mb5 ++ (iw_ws a7 cI 256 v9.1.1 ++ (iw_ws a8 cI 64 v9.1.2.1 ++ (iw_ws a9 cI 8 v9.1.2.2.1 ++ (iw_ws mb0 cI 8 kS ++ (iw_ws mb1 cI 64 kR ++ (jw_ws a2 cJ 4 v9.1.2.2.2.1 ++ (jw_ws a0 cJ 1232 nf ++ (jw_ws a1 cJ 616 cf ++ (iw_ws a4 cI 4 kf ++ (jw_ws mb2 cJ 4 ky ++ (jw_ws a3 cJ 16 v9.2 ++ (iw_ws a5 cI 4 sf ++ (iw_ws a6 cI 64 vf ++ (jw_ws mb3 cJ 128 md ++ (jw_ws mb4 cJ 4 sh ++ iw_ws mb5 cI 64 ct))))))))))))))))))))))))))) [0, 1, 2, 3, 4, 5, 6, 7, 8, 9, 10, 11, 12, 13, 14, 15, 16, 17, 18, 19, 20, 21, 22, 23, 24, 25, 30, 31, 32, 33, 34, 35, 36, 37, 38, 26, 41, 42, 39, 27, 28, 40, 29] rfl
    have hD := hD.part (cx := (jw_ws out cJ 1 of ++ (bb_ws b0 bd0 pr0 t0 au0 da (.ref g0) ++ (rw_ws da cJ (r8 u9.1.1 u9.1.2.1 u9.1.2.2.1 u9.1.2.2.2.1 u9.1.2.2.2.2.1 u9.1.2.2.2.2.2.1 u9.1.2.2.2.2.2.2.1 u9.1.2.2.2.2.2.2.2) ++ (bd_ws bd0 h0 ro lo n cR (rrf rb) (rrf lb) ++ (pr_ws pr0 h0 cm cJ u9.2.1 ++ (hu_ws h0 aw ax ay cJ cI u9.2.2 ++ (tt_ws t0 ka aa ba sa (.ref g0) cJ T ++ (au_ws au0 bd0 pr0 tu0 sd ++ (tt_ws tu0 uka uaa uba usa gu cJ T0 ++ (gp_ws g0 mF mE P f1 k1 Q f2 k2 G ++ (mo_ws m0 2 (nI (t_tn T)) (nI n) (nI (t_bc T)) (lN P) (lN Q) (lN G) (lN (ckey (t_tn T) (t_kc T) (t_kp T))) (lN (t_pa T)) (lN (t_pb T)) (t_sht T) a0 a1 a2 a3 a4 a5 a6 a7 a8 a9 mb0 mb1 v9.1.2.2.2.2 mb2 mb3 mb4 mb5 ++ (iw_ws a7 cI 256 v9.1.1 ++ (iw_ws a8 cI 64 v9.1.2.1 ++ (iw_ws a9 cI 8 v9.1.2.2.1 ++ (iw_ws mb0 cI 8 kS ++ (iw_ws mb1 cI 64 kR ++ (jw_ws a2 cJ 4 v9.1.2.2.2.1 ++ (jw_ws a0 cJ 1232 nf ++ (jw_ws a1 cJ 616 cf ++ (iw_ws a4 cI 4 kf ++ (jw_ws mb2 cJ 4 ky ++ (jw_ws a3 cJ 16 v9.2 ++ (iw_ws a5 cI 4 sf ++ (iw_ws a6 cI 64 vf ++ (jw_ws mb3 cJ 128 md ++ (jw_ws mb4 cJ 4 sh ++ iw_ws mb5 cI 64 ct))))))))))))))))))))))))))) [0, 1, 2, 3, 4, 5, 6, 7, 8, 9, 10, 11, 12, 13, 14, 15, 16, 17, 18, 19, 20, 21, 22, 23, 24, 25, 30, 31, 32, 33, 34, 35, 36, 37, 38, 26, 41, 42, 39, 27, 28, 40, 29] (by decide) rfl
    generalize H1 = H at hP hS ⊢
    clear hPc hDc hFc hP1 hD1 hK1 ht hk1 hz1
    refine lv_istore (lv' := [(6, .int r_12), (5, .int 2), (4, .int (nI i)), (3, .ref out), (2, .ref m0), (1, .ref b0), (0, .ref b)]) hx hb d_law_1544 hl (by decide) rfl (fun ls hl => ?_)
    refine lv_aload_n hx hb d_law_1546 rfl (lv_at hl 4 rfl) ?_
    have hPc := hP.sub (ws' := (mo_ws m0 2 (nI (t_tn T)) (nI n) (nI (t_bc T)) (lN P) (lN Q) (lN G) (lN (ckey (t_tn T) (t_kc T) (t_kp T))) (lN (t_pa T)) (lN (t_pb T)) (t_sht T) a0 a1 a2 a3 a4 a5 a6 a7 a8 a9 mb0 mb1 v9.1.2.2.2.2 mb2 mb3 mb4 mb5)) [26] rfl
    have hKc := hK.sub (tys' := [(cJ, .long), (cI, .int)]) [0, 1] rfl
    refine va_calli (va_runV (As := []) (rest := []) ⟨hx, hb, hml, hown, hts⟩ (c_Bm_thrown l H dC dI cJ cI m0 2 (nI (t_tn T)) (nI n) (nI (t_bc T)) (lN P) (lN Q) (lN G) (lN (ckey (t_tn T) (t_kc T) (t_kp T))) (lN (t_pa T)) (lN (t_pb T)) (t_sht T) a0 a1 a2 a3 a4 a5 a6 a7 a8 a9 mb0 mb1 v9.1.2.2.2.2 mb2 mb3 mb4 mb5 hPc) (cwV 0 hts (gw_V gk_1004 gk_1005 gk_1006 gk_7 gk_1007) rfl rfl rfl (by decide +kernel) ⟨(Nat.le_of_ble_eq_true rfl), (Nat.le_of_ble_eq_true rfl)⟩) ⟨fun a U g mk q => ⟨q.1, q.2.1, va_K.moved (u := U) (U := U.calling g mk a) (Vm.Alike.refl U.vm) q.2.2⟩, va_recv hK hP (ci := 8) (q0 := 26) rfl rfl, fun U hU hW => ⟨rfl, hU, va_K.moved hW.alike hKc⟩⟩ rfl rfl hl.1 rfl (lv_room (Nat.le_of_ble_eq_true rfl)) d_law_1547 ⟨show cells + 8 + 0 + 0 ≤ 601024 by omega, show slots + 48 + 0 + 0 ≤ 7293034 by omega⟩) hS (fun q _ h => h.elim) (fun q h => h.elim) (fun r_13 w9 t9 H1 locs ht hvm hw9 hB hz1 hk1 hS => ?_)
    obtain rfl : H = H1 := hB.symm.trans ht
    have hw9 : r_13 = 2 := hw9
    subst hw9
    clear hPc hz1 hk1 hB
    refine lv_iload hx hb d_law_1550 (lv_at hl 1 rfl) ?_
    refine lv_icmp_eq (tgt := 1557) hx hb d_law_1552 (by decide) (fun c_14 => ?_) (fun c_14 => ?_)
    · -- taken
      refine lv_iload hx hb d_law_1557 (lv_at hl 1 rfl) ?_
      refine lv_if_ne (tgt := 1574) hx hb d_law_1559 (by decide) (fun c_15 => ?_) (fun c_15 => ?_)
      · -- taken
        refine lv_goto (tgt := 1965) hx hb d_law_1574 (by decide) ?_
        refine W.widen (k := cells + 20) (n := slots + 200) (by omega) (by omega) ?_
        have hI9 : LI dC dI cJ cI cR A out b0 m0 H := LG.mk hP hD hR
        exact cont _ _ _ hS hI9 (lv_sub hl [2, 3, 4, 5, 6] rfl)
      · -- not taken
        exact absurd c_15 (by decide)
    · -- not taken
      exact absurd c_14 (by decide)
  refine lv_aload_n hx hb d_law_1433 rfl (lv_at hl 3 rfl) ?_
  refine lv_aload_n hx hb d_law_1434 rfl (lv_at hl 4 rfl) ?_
  refine lv_iload hx hb d_law_1435 (lv_at hl 0 rfl) ?_
  refine lv_iconst (v := 1) hx hb d_law_1437 (by decide) ?_
  refine lv_iadd hx hb d_law_1438 ?_
  rw [show ((nI i) + 1 : Int32) = nI (i + 1) from nI_add _ 1]
  refine va_sld hx hb hX hbl hbA hS (vp_in_nI (by omega) (by omega)) d_law_1439 ?_
  rw [show (xs (nI (i + 1)).toNatClampNeg : Int32) = xs (i + 1) from by rw [nI_clamp (by omega)]]
  rw [show (xs (i + 1) : Int32) = x1 from hx1.symm]
  refine lv_aload_n hx hb d_law_1440 rfl (lv_at hl 4 rfl) ?_
  refine lv_iload hx hb d_law_1441 (lv_at hl 0 rfl) ?_
  refine lv_iconst (v := 2) hx hb d_law_1443 (by decide) ?_
  refine lv_iadd hx hb d_law_1444 ?_
  rw [show ((nI i) + 2 : Int32) = nI (i + 2) from nI_add _ 2]
  refine va_sld hx hb hX hbl hbA hS (vp_in_nI (by omega) (by omega)) d_law_1445 ?_
  rw [show (xs (nI (i + 2)).toNatClampNeg : Int32) = xs (i + 2) from by rw [nI_clamp (by omega)]]
  refine lv_i2l (v := (xs (i + 2) : Int32).toInt64) hx hb d_law_1446 rfl ?_
  refine lv_bipush (v := 32) hx hb d_law_1447 (by decide) ?_
  refine lv_lshl (v := ((xs (i + 2) : Int32).toInt64 : Int64) <<< ((32 : Int32).toInt64 &&& 63)) hx hb d_law_1449 rfl ?_
  refine lv_aload_n hx hb d_law_1450 rfl (lv_at hl 4 rfl) ?_
  refine lv_iload hx hb d_law_1451 (lv_at hl 0 rfl) ?_
  refine lv_iconst (v := 3) hx hb d_law_1453 (by decide) ?_
  refine lv_iadd hx hb d_law_1454 ?_
  rw [show ((nI i) + 3 : Int32) = nI (i + 3) from nI_add _ 3]
  refine va_sld hx hb hX hbl hbA hS (vp_in_nI (by omega) (by omega)) d_law_1455 ?_
  rw [show (xs (nI (i + 3)).toNatClampNeg : Int32) = xs (i + 3) from by rw [nI_clamp (by omega)]]
  refine lv_i2l (v := (xs (i + 3) : Int32).toInt64) hx hb d_law_1456 rfl ?_
  refine lv_ldc2 (v := 4294967295) hx hb hown (hts _ (List.mem_cons_of_mem _ gk_1202)) d_law_1457 ?_
  refine lv_land hx hb d_law_1460 ?_
  refine lv_lor hx hb d_law_1461 ?_
  rw [show ((((xs (i + 2) : Int32).toInt64 : Int64) <<< ((32 : Int32).toInt64 &&& 63)) ||| (((xs (i + 3) : Int32).toInt64) &&& 4294967295) : Int64) = x2 from hx2.symm]
  refine lv_aload_n hx hb d_law_1462 rfl (lv_at hl 4 rfl) ?_
  refine lv_iload hx hb d_law_1463 (lv_at hl 0 rfl) ?_
  refine lv_iconst (v := 4) hx hb d_law_1465 (by decide) ?_
  refine lv_iadd hx hb d_law_1466 ?_
  rw [show ((nI i) + 4 : Int32) = nI (i + 4) from nI_add _ 4]
  refine va_sld hx hb hX hbl hbA hS (vp_in_nI (by omega) (by omega)) d_law_1467 ?_
  rw [show (xs (nI (i + 4)).toNatClampNeg : Int32) = xs (i + 4) from by rw [nI_clamp (by omega)]]
  refine lv_i2l (v := (xs (i + 4) : Int32).toInt64) hx hb d_law_1468 rfl ?_
  refine lv_bipush (v := 32) hx hb d_law_1469 (by decide) ?_
  refine lv_lshl (v := ((xs (i + 4) : Int32).toInt64 : Int64) <<< ((32 : Int32).toInt64 &&& 63)) hx hb d_law_1471 rfl ?_
  refine lv_aload_n hx hb d_law_1472 rfl (lv_at hl 4 rfl) ?_
  refine lv_iload hx hb d_law_1473 (lv_at hl 0 rfl) ?_
  refine lv_iconst (v := 5) hx hb d_law_1475 (by decide) ?_
  refine lv_iadd hx hb d_law_1476 ?_
  rw [show ((nI i) + 5 : Int32) = nI (i + 5) from nI_add _ 5]
  refine va_sld hx hb hX hbl hbA hS (vp_in_nI (by omega) (by omega)) d_law_1477 ?_
  rw [show (xs (nI (i + 5)).toNatClampNeg : Int32) = xs (i + 5) from by rw [nI_clamp (by omega)]]
  refine lv_i2l (v := (xs (i + 5) : Int32).toInt64) hx hb d_law_1478 rfl ?_
  refine lv_ldc2 (v := 4294967295) hx hb hown (hts _ (List.mem_cons_of_mem _ gk_1202)) d_law_1479 ?_
  refine lv_land hx hb d_law_1482 ?_
  refine lv_lor hx hb d_law_1483 ?_
  rw [show ((((xs (i + 4) : Int32).toInt64 : Int64) <<< ((32 : Int32).toInt64 &&& 63)) ||| (((xs (i + 5) : Int32).toInt64) &&& 4294967295) : Int64) = x3 from hx3.symm]
  refine lv_aload_n hx hb d_law_1484 rfl (lv_at hl 1 rfl) ?_
  have hPc := hP.part (cx := (jw_ws out cJ 1 of ++ (bb_ws b0 bd0 pr0 t0 au0 da (.ref g0) ++ (rw_ws da cJ (r8 d0 d1 d2 d3 d4 d5 d6 d7) ++ (bd_ws bd0 h0 ro lo n cR (rrf rb) (rrf lb) ++ (pr_ws pr0 h0 cm cJ ccf ++ (ha_ws h0 aw ax ay cJ cI w csc cst cL ++ (tt_ws t0 ka aa ba sa (.ref g0) cJ T ++ gp_ws g0 mF mE P f1 k1 Q f2 k2 G)))))))) [0, 1, 2, 3, 4, 5, 6, 7, 8, 9, 10, 11, 12, 13, 14, 15, 16, 23, 24, 25] rfl
  have hDc := hD.part (cx := (jw_ws out cJ 1 of ++ (bb_ws b0 bd0 pr0 t0 au0 da (.ref g0) ++ (rw_ws da cJ (r8 d0 d1 d2 d3 d4 d5 d6 d7) ++ (bd_ws bd0 h0 ro lo n cR (rrf rb) (rrf lb) ++ (pr_ws pr0 h0 cm cJ ccf ++ (ha_ws h0 aw ax ay cJ cI w csc cst cL ++ (tt_ws t0 ka aa ba sa (.ref g0) cJ T ++ gp_ws g0 mF mE P f1 k1 Q f2 k2 G)))))))) [0, 1, 2, 3, 4, 5, 6, 7, 8, 9, 10, 11, 12, 13, 14, 15, 16, 23, 24, 25] (by decide) rfl
  have hKc := hK.sub (tys' := [(cJ, .long), (cI, .int), (cR, .array .long)]) [0, 1, 2] rfl
  have hFc := va_freeP (cx := (jw_ws out cJ 1 of ++ (bb_ws b0 bd0 pr0 t0 au0 da (.ref g0) ++ (rw_ws da cJ (r8 d0 d1 d2 d3 d4 d5 d6 d7) ++ (bd_ws bd0 h0 ro lo n cR (rrf rb) (rrf lb) ++ (pr_ws pr0 h0 cm cJ ccf ++ (ha_ws h0 aw ax ay cJ cI w csc cst cL ++ (tt_ws t0 ka aa ba sa (.ref g0) cJ T ++ gp_ws g0 mF mE P f1 k1 Q f2 k2 G)))))))) hD hS hA [0, 1, 2, 3, 4, 5, 6, 7, 8, 9, 10, 11, 12, 13, 14, 15, 16, 23, 24, 25] rfl
  have hZc0 : ha_Z rA sA (va_A ((jw_ws out cJ 1 of ++ (bb_ws b0 bd0 pr0 t0 au0 da (.ref g0) ++ (rw_ws da cJ (r8 d0 d1 d2 d3 d4 d5 d6 d7) ++ (bd_ws bd0 h0 ro lo n cR (rrf rb) (rrf lb) ++ (pr_ws pr0 h0 cm cJ ccf ++ (ha_ws h0 aw ax ay cJ cI w csc cst cL ++ (tt_ws t0 ka aa ba sa (.ref g0) cJ T ++ gp_ws g0 mF mE P f1 k1 Q f2 k2 G))))))) ++ bpool rb lb cJ R Lk) H.size) s H := (hZha.kept hS.2.1).narrow hFc
  have hZc1 : xz (va_A ((jw_ws out cJ 1 of ++ (bb_ws b0 bd0 pr0 t0 au0 da (.ref g0) ++ (rw_ws da cJ (r8 d0 d1 d2 d3 d4 d5 d6 d7) ++ (bd_ws bd0 h0 ro lo n cR (rrf rb) (rrf lb) ++ (pr_ws pr0 h0 cm cJ ccf ++ (ha_ws h0 aw ax ay cJ cI w csc cst cL ++ (tt_ws t0 ka aa ba sa (.ref g0) cJ T ++ gp_ws g0 mF mE P f1 k1 Q f2 k2 G))))))) ++ bpool rb lb cJ R Lk) H.size) s H := (hZx.kept hS.2.1).narrow hFc
  have hZc2 : nc_Z s := hZn
  refine vx_calli (vx_runSX (hh := h_Lw_makeShare) (As := [.ref b0, .int x1, .long x2, .long x3, .ref out]) (rest := []) ⟨hx, hb, hml, hown, hts⟩ (c_Lw_makeShare_0 l hnt dC dI cJ cI cR H.size b0 bd0 pr0 t0 au0 da h0 ro lo n rb lb cm ccf aw ax ay w csc cst cL ka aa ba sa T g0 mF mE P f1 k1 Q f2 k2 G rA sA R Lk d0 d1 d2 d3 d4 d5 d6 d7 x1 x2 x3 out of hok htok hN0 htn hkc hn hnS hn0S hC1 hC2) (vx_cwSW 5 hts (gw_Sv gk_723 gk_724 gk_0 gk_725) rfl rfl rfl (by decide +kernel) ⟨(Nat.le_of_ble_eq_true rfl), (Nat.le_of_ble_eq_true rfl)⟩) ⟨fun a U g mk q => by obtain ⟨q0, q1, qP, qK, qD, qZ0, qZ1, qZ2⟩ := q; exact ⟨q0, q1, qP, va_K.moved (u := U) (U := U.calling g mk a) (Vm.Alike.refl U.vm) qK, qD, ha_Z.moved (u := U) (U := U.calling g mk a) (Vm.Alike.refl U.vm) qZ0, xz.same (u := U) (U := U.calling g mk a) rfl qZ1, nc_Z.moved (u := U) (U := U.calling g mk a) (Vm.Alike.refl U.vm) qZ2⟩, fun U hU hW => ⟨rfl, by rw [hU], by rw [hU]; exact hPc, va_K.moved hW.alike hKc, hDc.weaken (fun _ _ _ _ => trivial), by rw [hU]; exact ha_Z.moved hW.alike hZc0, by rw [hU]; exact xz.warm hW hZc1, nc_Z.moved hW.alike hZc2⟩⟩ rfl rfl hl.1 rfl (lv_room (Nat.le_of_ble_eq_true rfl)) d_law_1485 ⟨show cells + 8 ≤ 601024 by omega, show slots + 48 ≤ 7293034 by omega⟩) hS (fun q _ h => hFc q h) hFc (fun q _ h => hFc q h) (fun E9 ce9 q9 u8 t9 H1 locs ht hvm hpx hbx hz1 hk1 hS hce hcv hcl => hpx.elim) (fun r_16 u9 t9 H1 locs ht hvm hw hB hz1 hk1 hS => ?_)
  obtain ⟨hP1, hK1, hD1⟩ := hB
  rw [ht] at hP1
  obtain ⟨hP, hD⟩ := va_joinP (X := (jw_ws out cJ 1 of ++ (bb_ws b0 bd0 pr0 t0 au0 da (.ref g0) ++ (rw_ws da cJ (r8 d0 d1 d2 d3 d4 d5 d6 d7) ++ (bd_ws bd0 h0 ro lo n cR (rrf rb) (rrf lb) ++ (pr_ws pr0 h0 cm cJ ccf ++ (ha_ws h0 aw ax ay cJ cI w csc cst cL ++ (tt_ws t0 ka aa ba sa (.ref g0) cJ T ++ (au_ws au0 bd0 pr0 tu0 sd ++ (tt_ws tu0 uka uaa uba usa gu cJ T0 ++ (gp_ws g0 mF mE P f1 k1 Q f2 k2 G ++ (mo_ws m0 e0 (nI (t_tn T)) (nI n) (nI (t_bc T)) (lN P) (lN Q) (lN G) (lN (ckey (t_tn T) (t_kc T) (t_kp T))) (lN (t_pa T)) (lN (t_pb T)) (t_sht T) a0 a1 a2 a3 a4 a5 a6 a7 a8 a9 mb0 mb1 oc mb2 mb3 mb4 mb5 ++ (iw_ws a7 cI 256 bf ++ (iw_ws a8 cI 64 sc ++ (iw_ws a9 cI 8 st ++ (iw_ws mb0 cI 8 kS ++ (iw_ws mb1 cI 64 kR ++ (jw_ws a2 cJ 4 tf ++ (jw_ws a0 cJ 1232 nf ++ (jw_ws a1 cJ 616 cf ++ (iw_ws a4 cI 4 kf ++ (jw_ws mb2 cJ 4 ky ++ (jw_ws a3 cJ 16 lf ++ (iw_ws a5 cI 4 sf ++ (iw_ws a6 cI 64 vf ++ (jw_ws mb3 cJ 128 md ++ (jw_ws mb4 cJ 4 sh ++ iw_ws mb5 cI 64 ct))))))))))))))))))))))))))) (cx := (jw_ws out cJ 1 of ++ (bb_ws b0 bd0 pr0 t0 au0 da (.ref g0) ++ (rw_ws da cJ (r8 d0 d1 d2 d3 d4 d5 d6 d7) ++ (bd_ws bd0 h0 ro lo n cR (rrf rb) (rrf lb) ++ (pr_ws pr0 h0 cm cJ ccf ++ (ha_ws h0 aw ax ay cJ cI w csc cst cL ++ (tt_ws t0 ka aa ba sa (.ref g0) cJ T ++ gp_ws g0 mF mE P f1 k1 Q f2 k2 G)))))))) (wr := (au_ws au0 bd0 pr0 tu0 sd ++ (tt_ws tu0 uka uaa uba usa gu cJ T0 ++ (mo_ws m0 e0 (nI (t_tn T)) (nI n) (nI (t_bc T)) (lN P) (lN Q) (lN G) (lN (ckey (t_tn T) (t_kc T) (t_kp T))) (lN (t_pa T)) (lN (t_pb T)) (t_sht T) a0 a1 a2 a3 a4 a5 a6 a7 a8 a9 mb0 mb1 oc mb2 mb3 mb4 mb5 ++ (iw_ws a7 cI 256 bf ++ (iw_ws a8 cI 64 sc ++ (iw_ws a9 cI 8 st ++ (iw_ws mb0 cI 8 kS ++ (iw_ws mb1 cI 64 kR ++ (jw_ws a2 cJ 4 tf ++ (jw_ws a0 cJ 1232 nf ++ (jw_ws a1 cJ 616 cf ++ (iw_ws a4 cI 4 kf ++ (jw_ws mb2 cJ 4 ky ++ (jw_ws a3 cJ 16 lf ++ (iw_ws a5 cI 4 sf ++ (iw_ws a6 cI 64 vf ++ (jw_ws mb3 cJ 128 md ++ (jw_ws mb4 cJ 4 sh ++ iw_ws mb5 cI 64 ct))))))))))))))))))) (rx := (jw_ws out cJ 1 (vp_updL of 0 (lN n)) ++ (bb_ws b0 bd0 pr0 t0 au0 da (.ref g0) ++ (rw_ws da cJ (r8 (lN 3) (lN u9.1) (lN (t_pa T ^ u9.2.1 % P)) (lN (shcN P Q G (t_pa T) u9.1 u9.2.1 u9.2.2.1)) (lN ((u9.2.2.1 + (shcN P Q G (t_pa T) u9.1 u9.2.1 u9.2.2.1) * u9.2.1 % Q) % Q)) d5 d6 d7) ++ (bd_ws bd0 h0 ro lo (n + 1) cR (rrf rb) (rrf lb) ++ (pr_ws pr0 h0 cm cJ u9.2.2.2.1 ++ (hu_ws h0 aw ax ay cJ cI u9.2.2.2.2 ++ (tt_ws t0 ka aa ba sa (.ref g0) cJ (tSha P u9.1 (vN (lN (t_pa T ^ u9.2.1 % P))) T) ++ gp_ws g0 mF mE P f1 k1 Q f2 k2 G)))))))) (pl := bpool rb lb cJ R Lk) (pl1 := bpool rb lb cJ (updF R n (r8 (lN 3) (lN u9.1) (lN (t_pa T ^ u9.2.1 % P)) (lN (shcN P Q G (t_pa T) u9.1 u9.2.1 u9.2.2.1)) (lN ((u9.2.2.1 + (shcN P Q G (t_pa T) u9.1 u9.2.1 u9.2.2.1) * u9.2.1 % Q) % Q)) d5 d6 d7)) (updF Lk n (lkw (msgL 3 n (r8 (lN 3) (lN u9.1) (lN (t_pa T ^ u9.2.1 % P)) (lN (shcN P Q G (t_pa T) u9.1 u9.2.1 u9.2.2.1)) (lN ((u9.2.2.1 + (shcN P Q G (t_pa T) u9.1 u9.2.1 u9.2.2.1) * u9.2.1 % Q) % Q)) d5 d6 d7) Lk)))) hP hD [0, 1, 2, 3, 4, 5, 6, 7, 8, 9, 10, 11, 12, 13, 14, 15, 16, 23, 24, 25] [17, 18, 19, 20, 21, 22, 26, 27, 28, 29, 30, 31, 32, 33, 34, 35, 36, 37, 38, 39, 40, 41, 42] rfl rfl (by decide) (by decide) hk1 hFc hP1 hD1
  have hP := hP.part (cx := (jw_ws out cJ 1 (vp_updL of 0 (lN n)) ++ (bb_ws b0 bd0 pr0 t0 au0 da (.ref g0) ++ (rw_ws da cJ (r8 (lN 3) (lN u9.1) (lN (t_pa T ^ u9.2.1 % P)) (lN (shcN P Q G (t_pa T) u9.1 u9.2.1 u9.2.2.1)) (lN ((u9.2.2.1 + (shcN P Q G (t_pa T) u9.1 u9.2.1 u9.2.2.1) * u9.2.1 % Q) % Q)) d5 d6 d7) ++ (bd_ws bd0 h0 ro lo (n + 1) cR (rrf rb) (rrf lb) ++ (pr_ws pr0 h0 cm cJ u9.2.2.2.1 ++ (hu_ws h0 aw ax ay cJ cI u9.2.2.2.2 ++ (tt_ws t0 ka aa ba sa (.ref g0) cJ (tSha P u9.1 (vN (lN (t_pa T ^ u9.2.1 % P))) T) ++ (au_ws au0 bd0 pr0 tu0 sd ++ (tt_ws tu0 uka uaa uba usa gu cJ T0 ++ (gp_ws g0 mF mE P f1 k1 Q f2 k2 G ++ (mo_ws m0 e0 (nI (t_tn T)) (nI n) (nI (t_bc T)) (lN P) (lN Q) (lN G) (lN (ckey (t_tn T) (t_kc T) (t_kp T))) (lN (t_pa T)) (lN (t_pb T)) (t_sht T) a0 a1 a2 a3 a4 a5 a6 a7 a8 a9 mb0 mb1 oc mb2 mb3 mb4 mb5 ++ (iw_ws a7 cI 256 bf ++ (iw_ws a8 cI 64 sc ++ (iw_ws a9 cI 8 st ++ (iw_ws mb0 cI 8 kS ++ (iw_ws mb1 cI 64 kR ++ (jw_ws a2 cJ 4 tf ++ (jw_ws a0 cJ 1232 nf ++ (jw_ws a1 cJ 616 cf ++ (iw_ws a4 cI 4 kf ++ (jw_ws mb2 cJ 4 ky ++ (jw_ws a3 cJ 16 lf ++ (iw_ws a5 cI 4 sf ++ (iw_ws a6 cI 64 vf ++ (jw_ws mb3 cJ 128 md ++ (jw_ws mb4 cJ 4 sh ++ iw_ws mb5 cI 64 ct))))))))))))))))))))))))))) [23, 24, 25, 26, 27, 28, 29, 30, 31, 32, 33, 34, 35, 36, 37, 38, 39, 0, 1, 2, 3, 4, 5, 40, 41, 42, 6, 7, 8, 9, 10, 11, 12, 13, 14, 15, 16, 17, 18, 19, 20, 21, 22] rfl
  have hD := hD.part (cx := (jw_ws out cJ 1 (vp_updL of 0 (lN n)) ++ (bb_ws b0 bd0 pr0 t0 au0 da (.ref g0) ++ (rw_ws da cJ (r8 (lN 3) (lN u9.1) (lN (t_pa T ^ u9.2.1 % P)) (lN (shcN P Q G (t_pa T) u9.1 u9.2.1 u9.2.2.1)) (lN ((u9.2.2.1 + (shcN P Q G (t_pa T) u9.1 u9.2.1 u9.2.2.1) * u9.2.1 % Q) % Q)) d5 d6 d7) ++ (bd_ws bd0 h0 ro lo (n + 1) cR (rrf rb) (rrf lb) ++ (pr_ws pr0 h0 cm cJ u9.2.2.2.1 ++ (hu_ws h0 aw ax ay cJ cI u9.2.2.2.2 ++ (tt_ws t0 ka aa ba sa (.ref g0) cJ (tSha P u9.1 (vN (lN (t_pa T ^ u9.2.1 % P))) T) ++ (au_ws au0 bd0 pr0 tu0 sd ++ (tt_ws tu0 uka uaa uba usa gu cJ T0 ++ (gp_ws g0 mF mE P f1 k1 Q f2 k2 G ++ (mo_ws m0 e0 (nI (t_tn T)) (nI n) (nI (t_bc T)) (lN P) (lN Q) (lN G) (lN (ckey (t_tn T) (t_kc T) (t_kp T))) (lN (t_pa T)) (lN (t_pb T)) (t_sht T) a0 a1 a2 a3 a4 a5 a6 a7 a8 a9 mb0 mb1 oc mb2 mb3 mb4 mb5 ++ (iw_ws a7 cI 256 bf ++ (iw_ws a8 cI 64 sc ++ (iw_ws a9 cI 8 st ++ (iw_ws mb0 cI 8 kS ++ (iw_ws mb1 cI 64 kR ++ (jw_ws a2 cJ 4 tf ++ (jw_ws a0 cJ 1232 nf ++ (jw_ws a1 cJ 616 cf ++ (iw_ws a4 cI 4 kf ++ (jw_ws mb2 cJ 4 ky ++ (jw_ws a3 cJ 16 lf ++ (iw_ws a5 cI 4 sf ++ (iw_ws a6 cI 64 vf ++ (jw_ws mb3 cJ 128 md ++ (jw_ws mb4 cJ 4 sh ++ iw_ws mb5 cI 64 ct))))))))))))))))))))))))))) [23, 24, 25, 26, 27, 28, 29, 30, 31, 32, 33, 34, 35, 36, 37, 38, 39, 0, 1, 2, 3, 4, 5, 40, 41, 42, 6, 7, 8, 9, 10, 11, 12, 13, 14, 15, 16, 17, 18, 19, 20, 21, 22] (by decide) rfl
  generalize H1 = H at hP hS ⊢
  clear hPc hDc hFc hP1 hD1 hK1 ht hk1 hz1
  have hr9 : r_16 = 0 := hw.1
  subst hr9
  have hw := hw.2
  obtain ⟨hxI, hI, hxX, hX9, hxW, hW9, _, _, hh⟩ := hw
  have hcl1 : t_sht T = 1 := Classical.byContradiction (fun q => hC1 (Or.inl q))
  have hs0 : t_so T u9.1 = 0 := Classical.byContradiction (fun q => hC1 (Or.inr ⟨u9.1, hxI, hI, q⟩))
  have hn1 : n < 154 := hnS u9.1 hI hs0
  have hn0 : 0 < n := hn0S hcl1
  refine lv_istore (lv' := [(5, .int 0), (4, .int (nI i)), (3, .ref out), (2, .ref m0), (1, .ref b0), (0, .ref b)]) hx hb d_law_1488 hl (by decide) rfl (fun ls hl => ?_)
  refine lv_aload_n hx hb d_law_1490 rfl (lv_at hl 3 rfl) ?_
  refine lv_aload_n hx hb d_law_1491 rfl (lv_at hl 5 rfl) ?_
  refine lv_iload hx hb d_law_1492 (lv_at hl 1 rfl) ?_
  refine lv_iconst (v := 1) hx hb d_law_1494 (by decide) ?_
  refine lv_iadd hx hb d_law_1495 ?_
  rw [show ((nI i) + 1 : Int32) = nI (i + 1) from nI_add _ 1]
  refine va_sld hx hb hX hbl hbA hS (vp_in_nI (by omega) (by omega)) d_law_1496 ?_
  rw [show (xs (nI (i + 1)).toNatClampNeg : Int32) = xs (i + 1) from by rw [nI_clamp (by omega)]]
  rw [show (xs (i + 1) : Int32) = nI u9.1 from (hx1.symm.trans hxI)]
  refine lv_aload_n hx hb d_law_1497 rfl (lv_at hl 5 rfl) ?_
  refine lv_iload hx hb d_law_1498 (lv_at hl 1 rfl) ?_
  refine lv_iconst (v := 2) hx hb d_law_1500 (by decide) ?_
  refine lv_iadd hx hb d_law_1501 ?_
  rw [show ((nI i) + 2 : Int32) = nI (i + 2) from nI_add _ 2]
  refine va_sld hx hb hX hbl hbA hS (vp_in_nI (by omega) (by omega)) d_law_1502 ?_
  rw [show (xs (nI (i + 2)).toNatClampNeg : Int32) = xs (i + 2) from by rw [nI_clamp (by omega)]]
  refine lv_i2l (v := (xs (i + 2) : Int32).toInt64) hx hb d_law_1503 rfl ?_
  refine lv_bipush (v := 32) hx hb d_law_1504 (by decide) ?_
  refine lv_lshl (v := ((xs (i + 2) : Int32).toInt64 : Int64) <<< ((32 : Int32).toInt64 &&& 63)) hx hb d_law_1506 rfl ?_
  refine lv_aload_n hx hb d_law_1507 rfl (lv_at hl 5 rfl) ?_
  refine lv_iload hx hb d_law_1508 (lv_at hl 1 rfl) ?_
  refine lv_iconst (v := 3) hx hb d_law_1510 (by decide) ?_
  refine lv_iadd hx hb d_law_1511 ?_
  rw [show ((nI i) + 3 : Int32) = nI (i + 3) from nI_add _ 3]
  refine va_sld hx hb hX hbl hbA hS (vp_in_nI (by omega) (by omega)) d_law_1512 ?_
  rw [show (xs (nI (i + 3)).toNatClampNeg : Int32) = xs (i + 3) from by rw [nI_clamp (by omega)]]
  refine lv_i2l (v := (xs (i + 3) : Int32).toInt64) hx hb d_law_1513 rfl ?_
  refine lv_ldc2 (v := 4294967295) hx hb hown (hts _ (List.mem_cons_of_mem _ gk_1202)) d_law_1514 ?_
  refine lv_land hx hb d_law_1517 ?_
  refine lv_lor hx hb d_law_1518 ?_
  rw [show ((((xs (i + 2) : Int32).toInt64 : Int64) <<< ((32 : Int32).toInt64 &&& 63)) ||| (((xs (i + 3) : Int32).toInt64) &&& 4294967295) : Int64) = lN u9.2.1 from (hx2.symm.trans hxX)]
  refine lv_aload_n hx hb d_law_1519 rfl (lv_at hl 5 rfl) ?_
  refine lv_iload hx hb d_law_1520 (lv_at hl 1 rfl) ?_
  refine lv_iconst (v := 4) hx hb d_law_1522 (by decide) ?_
  refine lv_iadd hx hb d_law_1523 ?_
  rw [show ((nI i) + 4 : Int32) = nI (i + 4) from nI_add _ 4]
  refine va_sld hx hb hX hbl hbA hS (vp_in_nI (by omega) (by omega)) d_law_1524 ?_
  rw [show (xs (nI (i + 4)).toNatClampNeg : Int32) = xs (i + 4) from by rw [nI_clamp (by omega)]]
  refine lv_i2l (v := (xs (i + 4) : Int32).toInt64) hx hb d_law_1525 rfl ?_
  refine lv_bipush (v := 32) hx hb d_law_1526 (by decide) ?_
  refine lv_lshl (v := ((xs (i + 4) : Int32).toInt64 : Int64) <<< ((32 : Int32).toInt64 &&& 63)) hx hb d_law_1528 rfl ?_
  refine lv_aload_n hx hb d_law_1529 rfl (lv_at hl 5 rfl) ?_
  refine lv_iload hx hb d_law_1530 (lv_at hl 1 rfl) ?_
  refine lv_iconst (v := 5) hx hb d_law_1532 (by decide) ?_
  refine lv_iadd hx hb d_law_1533 ?_
  rw [show ((nI i) + 5 : Int32) = nI (i + 5) from nI_add _ 5]
  refine va_sld hx hb hX hbl hbA hS (vp_in_nI (by omega) (by omega)) d_law_1534 ?_
  rw [show (xs (nI (i + 5)).toNatClampNeg : Int32) = xs (i + 5) from by rw [nI_clamp (by omega)]]
  refine lv_i2l (v := (xs (i + 5) : Int32).toInt64) hx hb d_law_1535 rfl ?_
  refine lv_ldc2 (v := 4294967295) hx hb hown (hts _ (List.mem_cons_of_mem _ gk_1202)) d_law_1536 ?_
  refine lv_land hx hb d_law_1539 ?_
  refine lv_lor hx hb d_law_1540 ?_
  rw [show ((((xs (i + 4) : Int32).toInt64 : Int64) <<< ((32 : Int32).toInt64 &&& 63)) ||| (((xs (i + 5) : Int32).toInt64) &&& 4294967295) : Int64) = lN u9.2.2.1 from (hx3.symm.trans hxW)]
  have hPc := hP.sub (ws' := (mo_ws m0 e0 (nI (t_tn T)) (nI n) (nI (t_bc T)) (lN P) (lN Q) (lN G) (lN (ckey (t_tn T) (t_kc T) (t_kp T))) (lN (t_pa T)) (lN (t_pb T)) (t_sht T) a0 a1 a2 a3 a4 a5 a6 a7 a8 a9 mb0 mb1 oc mb2 mb3 mb4 mb5 ++ (iw_ws a7 cI 256 bf ++ (iw_ws a8 cI 64 sc ++ (iw_ws a9 cI 8 st ++ (iw_ws mb0 cI 8 kS ++ (iw_ws mb1 cI 64 kR ++ (jw_ws a2 cJ 4 tf ++ (jw_ws a0 cJ 1232 nf ++ (jw_ws a1 cJ 616 cf ++ (iw_ws a5 cI 4 sf ++ (jw_ws mb4 cJ 4 sh ++ (jw_ws mb2 cJ 4 ky ++ jw_ws a3 cJ 16 lf))))))))))))) [26, 27, 28, 29, 30, 31, 32, 33, 34, 38, 41, 36, 37] rfl
  have hDc := hD.sub (ws' := (mo_ws m0 e0 (nI (t_tn T)) (nI n) (nI (t_bc T)) (lN P) (lN Q) (lN G) (lN (ckey (t_tn T) (t_kc T) (t_kp T))) (lN (t_pa T)) (lN (t_pb T)) (t_sht T) a0 a1 a2 a3 a4 a5 a6 a7 a8 a9 mb0 mb1 oc mb2 mb3 mb4 mb5 ++ (iw_ws a7 cI 256 bf ++ (iw_ws a8 cI 64 sc ++ (iw_ws a9 cI 8 st ++ (iw_ws mb0 cI 8 kS ++ (iw_ws mb1 cI 64 kR ++ (jw_ws a2 cJ 4 tf ++ (jw_ws a0 cJ 1232 nf ++ (jw_ws a1 cJ 616 cf ++ (iw_ws a5 cI 4 sf ++ (jw_ws mb4 cJ 4 sh ++ (jw_ws mb2 cJ 4 ky ++ jw_ws a3 cJ 16 lf))))))))))))) [26, 27, 28, 29, 30, 31, 32, 33, 34, 38, 41, 36, 37] (by decide) rfl
  have hKc := hK.sub (tys' := [(cJ, .long), (cI, .int)]) [0, 1] rfl
  have hFc := va_free (wc := (mo_ws m0 e0 (nI (t_tn T)) (nI n) (nI (t_bc T)) (lN P) (lN Q) (lN G) (lN (ckey (t_tn T) (t_kc T) (t_kp T))) (lN (t_pa T)) (lN (t_pb T)) (t_sht T) a0 a1 a2 a3 a4 a5 a6 a7 a8 a9 mb0 mb1 oc mb2 mb3 mb4 mb5 ++ (iw_ws a7 cI 256 bf ++ (iw_ws a8 cI 64 sc ++ (iw_ws a9 cI 8 st ++ (iw_ws mb0 cI 8 kS ++ (iw_ws mb1 cI 64 kR ++ (jw_ws a2 cJ 4 tf ++ (jw_ws a0 cJ 1232 nf ++ (jw_ws a1 cJ 616 cf ++ (iw_ws a5 cI 4 sf ++ (jw_ws mb4 cJ 4 sh ++ (jw_ws mb2 cJ 4 ky ++ jw_ws a3 cJ 16 lf))))))))))))) hD hS hA [26, 27, 28, 29, 30, 31, 32, 33, 34, 38, 41, 36, 37] rfl
  refine va_calli (va_runV (As := [.int (nI u9.1), .long (lN u9.2.1), .long (lN u9.2.2.1)]) (rest := []) ⟨hx, hb, hml, hown, hts⟩ (c_Bm_makeShare_0 l dC dI cJ cI H.size m0 e0 (t_tn T) n (t_bc T) P Q G (ckey (t_tn T) (t_kc T) (t_kp T)) (t_pa T) (t_pb T) (t_sht T) a0 a1 a2 a3 a4 a5 a6 a7 a8 a9 mb0 mb1 oc mb2 mb3 mb4 mb5 bf sc st sf tf nf cf sh ky lf (t_so T) (t_ko T) u9.1 u9.2.1 u9.2.2.1 htn hgr hsh0 hclN hn hrs hky hpa hcl1 hI hs0 hn1 hn0 hX9 hW9 hh) (cwV 3 hts (gw_V gk_1166 gk_1167 gk_1168 gk_7 gk_1169) rfl rfl rfl (by decide +kernel) ⟨(Nat.le_of_ble_eq_true rfl), (Nat.le_of_ble_eq_true rfl)⟩) ⟨fun a U g mk q => by obtain ⟨q0, q1, qP, qK, qD⟩ := q; exact ⟨q0, q1, qP, va_K.moved (u := U) (U := U.calling g mk a) (Vm.Alike.refl U.vm) qK, qD⟩, va_recv hK hP (ci := 8) (q0 := 26) rfl rfl, fun U hU hW => ⟨rfl, by rw [hU], by rw [hU]; exact hPc, va_K.moved hW.alike hKc, hDc.weaken (fun _ _ _ _ => trivial)⟩⟩ rfl rfl hl.1 rfl (lv_room (Nat.le_of_ble_eq_true rfl)) d_law_1541 ⟨show cells + 8 + 0 ≤ 601024 by omega, show slots + 48 + 0 ≤ 7293034 by omega⟩) hS (fun q _ h => hFc q h) hFc (fun r_17 v9 t9 H1 locs ht hvm hw hB hz1 hk1 hS => ?_)
  obtain ⟨hP1, hK1, hD1⟩ := hB
  rw [ht] at hP1
  obtain ⟨hP, hD⟩ := va_joinQ (X := (jw_ws out cJ 1 (vp_updL of 0 (lN n)) ++ (bb_ws b0 bd0 pr0 t0 au0 da (.ref g0) ++ (rw_ws da cJ (r8 (lN 3) (lN u9.1) (lN (t_pa T ^ u9.2.1 % P)) (lN (shcN P Q G (t_pa T) u9.1 u9.2.1 u9.2.2.1)) (lN ((u9.2.2.1 + (shcN P Q G (t_pa T) u9.1 u9.2.1 u9.2.2.1) * u9.2.1 % Q) % Q)) d5 d6 d7) ++ (bd_ws bd0 h0 ro lo (n + 1) cR (rrf rb) (rrf lb) ++ (pr_ws pr0 h0 cm cJ u9.2.2.2.1 ++ (hu_ws h0 aw ax ay cJ cI u9.2.2.2.2 ++ (tt_ws t0 ka aa ba sa (.ref g0) cJ (tSha P u9.1 (vN (lN (t_pa T ^ u9.2.1 % P))) T) ++ (au_ws au0 bd0 pr0 tu0 sd ++ (tt_ws tu0 uka uaa uba usa gu cJ T0 ++ (gp_ws g0 mF mE P f1 k1 Q f2 k2 G ++ (mo_ws m0 e0 (nI (t_tn T)) (nI n) (nI (t_bc T)) (lN P) (lN Q) (lN G) (lN (ckey (t_tn T) (t_kc T) (t_kp T))) (lN (t_pa T)) (lN (t_pb T)) (t_sht T) a0 a1 a2 a3 a4 a5 a6 a7 a8 a9 mb0 mb1 oc mb2 mb3 mb4 mb5 ++ (iw_ws a7 cI 256 bf ++ (iw_ws a8 cI 64 sc ++ (iw_ws a9 cI 8 st ++ (iw_ws mb0 cI 8 kS ++ (iw_ws mb1 cI 64 kR ++ (jw_ws a2 cJ 4 tf ++ (jw_ws a0 cJ 1232 nf ++ (jw_ws a1 cJ 616 cf ++ (iw_ws a4 cI 4 kf ++ (jw_ws mb2 cJ 4 ky ++ (jw_ws a3 cJ 16 lf ++ (iw_ws a5 cI 4 sf ++ (iw_ws a6 cI 64 vf ++ (jw_ws mb3 cJ 128 md ++ (jw_ws mb4 cJ 4 sh ++ iw_ws mb5 cI 64 ct))))))))))))))))))))))))))) (cx := (mo_ws m0 e0 (nI (t_tn T)) (nI n) (nI (t_bc T)) (lN P) (lN Q) (lN G) (lN (ckey (t_tn T) (t_kc T) (t_kp T))) (lN (t_pa T)) (lN (t_pb T)) (t_sht T) a0 a1 a2 a3 a4 a5 a6 a7 a8 a9 mb0 mb1 oc mb2 mb3 mb4 mb5 ++ (iw_ws a7 cI 256 bf ++ (iw_ws a8 cI 64 sc ++ (iw_ws a9 cI 8 st ++ (iw_ws mb0 cI 8 kS ++ (iw_ws mb1 cI 64 kR ++ (jw_ws a2 cJ 4 tf ++ (jw_ws a0 cJ 1232 nf ++ (jw_ws a1 cJ 616 cf ++ (iw_ws a5 cI 4 sf ++ (jw_ws mb4 cJ 4 sh ++ (jw_ws mb2 cJ 4 ky ++ jw_ws a3 cJ 16 lf))))))))))))) (wr := (jw_ws out cJ 1 (vp_updL of 0 (lN n)) ++ (bb_ws b0 bd0 pr0 t0 au0 da (.ref g0) ++ (rw_ws da cJ (r8 (lN 3) (lN u9.1) (lN (t_pa T ^ u9.2.1 % P)) (lN (shcN P Q G (t_pa T) u9.1 u9.2.1 u9.2.2.1)) (lN ((u9.2.2.1 + (shcN P Q G (t_pa T) u9.1 u9.2.1 u9.2.2.1) * u9.2.1 % Q) % Q)) d5 d6 d7) ++ (bd_ws bd0 h0 ro lo (n + 1) cR (rrf rb) (rrf lb) ++ (pr_ws pr0 h0 cm cJ u9.2.2.2.1 ++ (hu_ws h0 aw ax ay cJ cI u9.2.2.2.2 ++ (tt_ws t0 ka aa ba sa (.ref g0) cJ (tSha P u9.1 (vN (lN (t_pa T ^ u9.2.1 % P))) T) ++ (au_ws au0 bd0 pr0 tu0 sd ++ (tt_ws tu0 uka uaa uba usa gu cJ T0 ++ (gp_ws g0 mF mE P f1 k1 Q f2 k2 G ++ (iw_ws a4 cI 4 kf ++ (iw_ws a6 cI 64 vf ++ (jw_ws mb3 cJ 128 md ++ iw_ws mb5 cI 64 ct)))))))))))))) (w1 := (mo_ws m0 0 (nI (t_tn T)) (nI (n + 1)) (nI (t_bc T)) (lN P) (lN Q) (lN G) (lN (ckey (t_tn T) (t_kc T) (t_kp T))) (lN (t_pa T)) (lN (t_pb T)) (t_sht T) a0 a1 a2 a3 a4 a5 a6 a7 a8 a9 mb0 mb1 v9.1.2.2.2.2 mb2 mb3 mb4 mb5 ++ (iw_ws a7 cI 256 v9.1.1 ++ (iw_ws a8 cI 64 v9.1.2.1 ++ (iw_ws a9 cI 8 v9.1.2.2.1 ++ (iw_ws mb0 cI 8 kS ++ (iw_ws mb1 cI 64 kR ++ (jw_ws a2 cJ 4 v9.1.2.2.2.1 ++ (jw_ws a0 cJ 1232 (w8 nf (8 * n) (lN 3) (lN u9.1) (lN ((t_pa T) ^ u9.2.1 % P)) (lN (shcR P Q G (t_pa T) u9.1 u9.2.1 u9.2.2.1)) (lN ((u9.2.2.1 + (shcR P Q G (t_pa T) u9.1 u9.2.1 u9.2.2.1) * u9.2.1 % Q) % Q)) 0 0 0) ++ (jw_ws a1 cJ 616 (c4 cf (4 * n) (lkw [cf (4 * (n - 1) + 0), cf (4 * (n - 1) + 1), cf (4 * (n - 1) + 2), cf (4 * (n - 1) + 3), lN 3, lN u9.1, lN ((t_pa T) ^ u9.2.1 % P), lN (shcR P Q G (t_pa T) u9.1 u9.2.1 u9.2.2.1), lN ((u9.2.2.1 + (shcR P Q G (t_pa T) u9.1 u9.2.1 u9.2.2.1) * u9.2.1 % Q) % Q)])) ++ (iw_ws a5 cI 4 (upd sf u9.1 (nI n)) ++ (jw_ws mb4 cJ 4 (vp_updL sh u9.1 (lN ((t_pa T) ^ u9.2.1 % P))) ++ (jw_ws mb2 cJ 4 ky ++ jw_ws a3 cJ 16 v9.2))))))))))))) (pl := bpool rb lb cJ (updF R n (r8 (lN 3) (lN u9.1) (lN (t_pa T ^ u9.2.1 % P)) (lN (shcN P Q G (t_pa T) u9.1 u9.2.1 u9.2.2.1)) (lN ((u9.2.2.1 + (shcN P Q G (t_pa T) u9.1 u9.2.1 u9.2.2.1) * u9.2.1 % Q) % Q)) d5 d6 d7)) (updF Lk n (lkw (msgL 3 n (r8 (lN 3) (lN u9.1) (lN (t_pa T ^ u9.2.1 % P)) (lN (shcN P Q G (t_pa T) u9.1 u9.2.1 u9.2.2.1)) (lN ((u9.2.2.1 + (shcN P Q G (t_pa T) u9.1 u9.2.1 u9.2.2.1) * u9.2.1 % Q) % Q)) d5 d6 d7) Lk)))) hP hD [26, 27, 28, 29, 30, 31, 32, 33, 34, 38, 41, 36, 37] [0, 1, 2, 3, 4, 5, 6, 7, 8, 9, 10, 11, 12, 13, 14, 15, 16, 17, 18, 19, 20, 21, 22, 23, 24, 25, 35, 39, 40, 42] rfl rfl (by decide) (by decide) hk1 hFc hP1 hD1
  have hP := hP.part (cx := (jw_ws out cJ 1 (vp_updL of 0 (lN n)) ++ (bb_ws b0 bd0 pr0 t0 au0 da (.ref g0) ++ (rw_ws da cJ (r8 (lN 3) (lN u9.1) (lN (t_pa T ^ u9.2.1 % P)) (lN (shcN P Q G (t_pa T) u9.1 u9.2.1 u9.2.2.1)) (lN ((u9.2.2.1 + (shcN P Q G (t_pa T) u9.1 u9.2.1 u9.2.2.1) * u9.2.1 % Q) % Q)) d5 d6 d7) ++ (bd_ws bd0 h0 ro lo (n + 1) cR (rrf rb) (rrf lb) ++ (pr_ws pr0 h0 cm cJ u9.2.2.2.1 ++ (hu_ws h0 aw ax ay cJ cI u9.2.2.2.2 ++ (tt_ws t0 ka aa ba sa (.ref g0) cJ (tSha P u9.1 (vN (lN (t_pa T ^ u9.2.1 % P))) T) ++ (au_ws au0 bd0 pr0 tu0 sd ++ (tt_ws tu0 uka uaa uba usa gu cJ T0 ++ (gp_ws g0 mF mE P f1 k1 Q f2 k2 G ++ (mo_ws m0 0 (nI (t_tn T)) (nI (n + 1)) (nI (t_bc T)) (lN P) (lN Q) (lN G) (lN (ckey (t_tn T) (t_kc T) (t_kp T))) (lN (t_pa T)) (lN (t_pb T)) (t_sht T) a0 a1 a2 a3 a4 a5 a6 a7 a8 a9 mb0 mb1 v9.1.2.2.2.2 mb2 mb3 mb4 mb5 ++ (iw_ws a7 cI 256 v9.1.1 ++ (iw_ws a8 cI 64 v9.1.2.1 ++ (iw_ws a9 cI 8 v9.1.2.2.1 ++ (iw_ws mb0 cI 8 kS ++ (iw_ws mb1 cI 64 kR ++ (jw_ws a2 cJ 4 v9.1.2.2.2.1 ++ (jw_ws a0 cJ 1232 (w8 nf (8 * n) (lN 3) (lN u9.1) (lN ((t_pa T) ^ u9.2.1 % P)) (lN (shcR P Q G (t_pa T) u9.1 u9.2.1 u9.2.2.1)) (lN ((u9.2.2.1 + (shcR P Q G (t_pa T) u9.1 u9.2.1 u9.2.2.1) * u9.2.1 % Q) % Q)) 0 0 0) ++ (jw_ws a1 cJ 616 (c4 cf (4 * n) (lkw [cf (4 * (n - 1) + 0), cf (4 * (n - 1) + 1), cf (4 * (n - 1) + 2), cf (4 * (n - 1) + 3), lN 3, lN u9.1, lN ((t_pa T) ^ u9.2.1 % P), lN (shcR P Q G (t_pa T) u9.1 u9.2.1 u9.2.2.1), lN ((u9.2.2.1 + (shcR P Q G (t_pa T) u9.1 u9.2.1 u9.2.2.1) * u9.2.1 % Q) % Q)])) ++ (iw_ws a4 cI 4 kf ++ (jw_ws mb2 cJ 4 ky ++ (jw_ws a3 cJ 16 v9.2 ++ (iw_ws a5 cI 4 (upd sf u9.1 (nI n)) ++ (iw_ws a6 cI 64 vf ++ (jw_ws mb3 cJ 128 md ++ (jw_ws mb4 cJ 4 (vp_updL sh u9.1 (lN ((t_pa T) ^ u9.2.1 % P))) ++ iw_ws mb5 cI 64 ct))))))))))))))))))))))))))) [0, 1, 2, 3, 4, 5, 6, 7, 8, 9, 10, 11, 12, 13, 14, 15, 16, 17, 18, 19, 20, 21, 22, 23, 24, 25, 30, 31, 32, 33, 34, 35, 36, 37, 38, 26, 41, 42, 39, 27, 28, 40, 29] rfl
  have hD := hD.part (cx := (jw_ws out cJ 1 (vp_updL of 0 (lN n)) ++ (bb_ws b0 bd0 pr0 t0 au0 da (.ref g0) ++ (rw_ws da cJ (r8 (lN 3) (lN u9.1) (lN (t_pa T ^ u9.2.1 % P)) (lN (shcN P Q G (t_pa T) u9.1 u9.2.1 u9.2.2.1)) (lN ((u9.2.2.1 + (shcN P Q G (t_pa T) u9.1 u9.2.1 u9.2.2.1) * u9.2.1 % Q) % Q)) d5 d6 d7) ++ (bd_ws bd0 h0 ro lo (n + 1) cR (rrf rb) (rrf lb) ++ (pr_ws pr0 h0 cm cJ u9.2.2.2.1 ++ (hu_ws h0 aw ax ay cJ cI u9.2.2.2.2 ++ (tt_ws t0 ka aa ba sa (.ref g0) cJ (tSha P u9.1 (vN (lN (t_pa T ^ u9.2.1 % P))) T) ++ (au_ws au0 bd0 pr0 tu0 sd ++ (tt_ws tu0 uka uaa uba usa gu cJ T0 ++ (gp_ws g0 mF mE P f1 k1 Q f2 k2 G ++ (mo_ws m0 0 (nI (t_tn T)) (nI (n + 1)) (nI (t_bc T)) (lN P) (lN Q) (lN G) (lN (ckey (t_tn T) (t_kc T) (t_kp T))) (lN (t_pa T)) (lN (t_pb T)) (t_sht T) a0 a1 a2 a3 a4 a5 a6 a7 a8 a9 mb0 mb1 v9.1.2.2.2.2 mb2 mb3 mb4 mb5 ++ (iw_ws a7 cI 256 v9.1.1 ++ (iw_ws a8 cI 64 v9.1.2.1 ++ (iw_ws a9 cI 8 v9.1.2.2.1 ++ (iw_ws mb0 cI 8 kS ++ (iw_ws mb1 cI 64 kR ++ (jw_ws a2 cJ 4 v9.1.2.2.2.1 ++ (jw_ws a0 cJ 1232 (w8 nf (8 * n) (lN 3) (lN u9.1) (lN ((t_pa T) ^ u9.2.1 % P)) (lN (shcR P Q G (t_pa T) u9.1 u9.2.1 u9.2.2.1)) (lN ((u9.2.2.1 + (shcR P Q G (t_pa T) u9.1 u9.2.1 u9.2.2.1) * u9.2.1 % Q) % Q)) 0 0 0) ++ (jw_ws a1 cJ 616 (c4 cf (4 * n) (lkw [cf (4 * (n - 1) + 0), cf (4 * (n - 1) + 1), cf (4 * (n - 1) + 2), cf (4 * (n - 1) + 3), lN 3, lN u9.1, lN ((t_pa T) ^ u9.2.1 % P), lN (shcR P Q G (t_pa T) u9.1 u9.2.1 u9.2.2.1), lN ((u9.2.2.1 + (shcR P Q G (t_pa T) u9.1 u9.2.1 u9.2.2.1) * u9.2.1 % Q) % Q)])) ++ (iw_ws a4 cI 4 kf ++ (jw_ws mb2 cJ 4 ky ++ (jw_ws a3 cJ 16 v9.2 ++ (iw_ws a5 cI 4 (upd sf u9.1 (nI n)) ++ (iw_ws a6 cI 64 vf ++ (jw_ws mb3 cJ 128 md ++ (jw_ws mb4 cJ 4 (vp_updL sh u9.1 (lN ((t_pa T) ^ u9.2.1 % P))) ++ iw_ws mb5 cI 64 ct))))))))))))))))))))))))))) [0, 1, 2, 3, 4, 5, 6, 7, 8, 9, 10, 11, 12, 13, 14, 15, 16, 17, 18, 19, 20, 21, 22, 23, 24, 25, 30, 31, 32, 33, 34, 35, 36, 37, 38, 26, 41, 42, 39, 27, 28, 40, 29] (by decide) rfl
  generalize H1 = H at hP hS ⊢
  clear hPc hDc hFc hP1 hD1 hK1 ht hk1 hz1
  have hr8 := hw
  subst hr8
  refine lv_istore (lv' := [(6, .int (nI n)), (5, .int 0), (4, .int (nI i)), (3, .ref out), (2, .ref m0), (1, .ref b0), (0, .ref b)]) hx hb d_law_1544 hl (by decide) rfl (fun ls hl => ?_)
  refine lv_aload_n hx hb d_law_1546 rfl (lv_at hl 4 rfl) ?_
  have hPc := hP.sub (ws' := (mo_ws m0 0 (nI (t_tn T)) (nI (n + 1)) (nI (t_bc T)) (lN P) (lN Q) (lN G) (lN (ckey (t_tn T) (t_kc T) (t_kp T))) (lN (t_pa T)) (lN (t_pb T)) (t_sht T) a0 a1 a2 a3 a4 a5 a6 a7 a8 a9 mb0 mb1 v9.1.2.2.2.2 mb2 mb3 mb4 mb5)) [26] rfl
  have hKc := hK.sub (tys' := [(cJ, .long), (cI, .int)]) [0, 1] rfl
  refine va_calli (va_runV (As := []) (rest := []) ⟨hx, hb, hml, hown, hts⟩ (c_Bm_thrown l H dC dI cJ cI m0 0 (nI (t_tn T)) (nI (n + 1)) (nI (t_bc T)) (lN P) (lN Q) (lN G) (lN (ckey (t_tn T) (t_kc T) (t_kp T))) (lN (t_pa T)) (lN (t_pb T)) (t_sht T) a0 a1 a2 a3 a4 a5 a6 a7 a8 a9 mb0 mb1 v9.1.2.2.2.2 mb2 mb3 mb4 mb5 hPc) (cwV 0 hts (gw_V gk_1004 gk_1005 gk_1006 gk_7 gk_1007) rfl rfl rfl (by decide +kernel) ⟨(Nat.le_of_ble_eq_true rfl), (Nat.le_of_ble_eq_true rfl)⟩) ⟨fun a U g mk q => ⟨q.1, q.2.1, va_K.moved (u := U) (U := U.calling g mk a) (Vm.Alike.refl U.vm) q.2.2⟩, va_recv hK hP (ci := 8) (q0 := 26) rfl rfl, fun U hU hW => ⟨rfl, hU, va_K.moved hW.alike hKc⟩⟩ rfl rfl hl.1 rfl (lv_room (Nat.le_of_ble_eq_true rfl)) d_law_1547 ⟨show cells + 8 + 0 + 0 ≤ 601024 by omega, show slots + 48 + 0 + 0 ≤ 7293034 by omega⟩) hS (fun q _ h => h.elim) (fun q h => h.elim) (fun r_18 w9 t9 H1 locs ht hvm hw9 hB hz1 hk1 hS => ?_)
  obtain rfl : H = H1 := hB.symm.trans ht
  have hw9 : r_18 = 0 := hw9
  subst hw9
  clear hPc hz1 hk1 hB
  refine lv_iload hx hb d_law_1550 (lv_at hl 1 rfl) ?_
  refine lv_icmp_eq (tgt := 1557) hx hb d_law_1552 (by decide) (fun c_19 => ?_) (fun c_19 => ?_)
  · -- taken
    refine lv_iload hx hb d_law_1557 (lv_at hl 1 rfl) ?_
    refine lv_if_ne (tgt := 1574) hx hb d_law_1559 (by decide) (fun c_20 => ?_) (fun c_20 => ?_)
    · -- taken
      exact absurd rfl c_20
    · -- not taken
      refine lv_aload_n hx hb d_law_1562 rfl (lv_at hl 3 rfl) ?_
      refine lv_iconst (v := 0) hx hb d_law_1563 (by decide) ?_
      refine va_lald hx hb hK hP 0 0 rfl rfl (vp_lit rfl) d_law_1564 ?_
      refine lv_topl (fun v_21 ev_21 => ?_)
      obtain rfl : v_21 = lN n := ev_21.trans rfl
      refine lv_iload hx hb d_law_1565 (lv_at hl 0 rfl) ?_
      refine lv_i2l (v := (nI n : Int32).toInt64) hx hb d_law_1567 rfl ?_
      refine W.lcmp hx hb d_law_1568 ?_
      refine lv_if_eq (tgt := 1574) hx hb d_law_1569 (by decide) (fun c_22 => ?_) (fun c_22 => ?_)
      · -- taken
        refine lv_goto (tgt := 1965) hx hb d_law_1574 (by decide) ?_
        refine W.widen (k := cells + 20) (n := slots + 200) (by omega) (by omega) ?_
        have hI9 : LI dC dI cJ cI cR A out b0 m0 H := LG.mk hP hD (rel_sha hR hI hcl1 hs0 hh d5 d6 d7 (congrArg lkw (msg5 hn0 (by decide) hcfR)))
        exact cont _ _ _ hS hI9 (lv_sub hl [2, 3, 4, 5, 6] rfl)
      · -- not taken
        exact absurd (lgc (nI_l (by omega)).symm) c_22
  · -- not taken
    exact absurd c_19 (by decide)
