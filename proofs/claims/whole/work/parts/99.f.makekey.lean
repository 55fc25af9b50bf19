theorem d_law_447 : decode code 447 = .ok (.aload_n 1, 1) := by decide +kernel
theorem d_law_448 : decode code 448 = .ok (.aload_n 0, 1) := by decide +kernel
theorem d_law_449 : decode code 449 = .ok (.iload 4, 2) := by decide +kernel
theorem d_law_451 : decode code 451 = .ok (.iconst 1, 1) := by decide +kernel
theorem d_law_452 : decode code 452 = .ok (.iadd, 1) := by decide +kernel
theorem d_law_453 : decode code 453 = .ok (.iaload, 1) := by decide +kernel
theorem d_law_454 : decode code 454 = .ok (.aload_n 0, 1) := by decide +kernel
theorem d_law_455 : decode code 455 = .ok (.iload 4, 2) := by decide +kernel
theorem d_law_457 : decode code 457 = .ok (.iconst 2, 1) := by decide +kernel
theorem d_law_458 : decode code 458 = .ok (.iadd, 1) := by decide +kernel
theorem d_law_459 : decode code 459 = .ok (.iaload, 1) := by decide +kernel
theorem d_law_460 : decode code 460 = .ok (.i2l, 1) := by decide +kernel
theorem d_law_461 : decode code 461 = .ok (.bipush 32, 2) := by decide +kernel
theorem d_law_463 : decode code 463 = .ok (.lshl, 1) := by decide +kernel
theorem d_law_464 : decode code 464 = .ok (.aload_n 0, 1) := by decide +kernel
theorem d_law_465 : decode code 465 = .ok (.iload 4, 2) := by decide +kernel
theorem d_law_467 : decode code 467 = .ok (.iconst 3, 1) := by decide +kernel
theorem d_law_468 : decode code 468 = .ok (.iadd, 1) := by decide +kernel
theorem d_law_469 : decode code 469 = .ok (.iaload, 1) := by decide +kernel
theorem d_law_470 : decode code 470 = .ok (.i2l, 1) := by decide +kernel
theorem d_law_471 : decode code 471 = .ok (.ldc2_w 70, 3) := by decide +kernel
theorem d_law_474 : decode code 474 = .ok (.land, 1) := by decide +kernel
theorem d_law_475 : decode code 475 = .ok (.lor, 1) := by decide +kernel
theorem d_law_476 : decode code 476 = .ok (.aload_n 0, 1) := by decide +kernel
theorem d_law_477 : decode code 477 = .ok (.iload 4, 2) := by decide +kernel
theorem d_law_479 : decode code 479 = .ok (.iconst 4, 1) := by decide +kernel
theorem d_law_480 : decode code 480 = .ok (.iadd, 1) := by decide +kernel
theorem d_law_481 : decode code 481 = .ok (.iaload, 1) := by decide +kernel
theorem d_law_482 : decode code 482 = .ok (.i2l, 1) := by decide +kernel
theorem d_law_483 : decode code 483 = .ok (.bipush 32, 2) := by decide +kernel
theorem d_law_485 : decode code 485 = .ok (.lshl, 1) := by decide +kernel
theorem d_law_486 : decode code 486 = .ok (.aload_n 0, 1) := by decide +kernel
theorem d_law_487 : decode code 487 = .ok (.iload 4, 2) := by decide +kernel
theorem d_law_489 : decode code 489 = .ok (.iconst 5, 1) := by decide +kernel
theorem d_law_490 : decode code 490 = .ok (.iadd, 1) := by decide +kernel
theorem d_law_491 : decode code 491 = .ok (.iaload, 1) := by decide +kernel
theorem d_law_492 : decode code 492 = .ok (.i2l, 1) := by decide +kernel
theorem d_law_493 : decode code 493 = .ok (.ldc2_w 70, 3) := by decide +kernel
theorem d_law_496 : decode code 496 = .ok (.land, 1) := by decide +kernel
theorem d_law_497 : decode code 497 = .ok (.lor, 1) := by decide +kernel
theorem d_law_498 : decode code 498 = .ok (.aload_n 3, 1) := by decide +kernel
theorem d_law_499 : decode code 499 = .ok (.invokestatic 85, 3) := by decide +kernel
theorem d_law_502 : decode code 502 = .ok (.istore 5, 2) := by decide +kernel
theorem d_law_504 : decode code 504 = .ok (.aload_n 2, 1) := by decide +kernel
theorem d_law_505 : decode code 505 = .ok (.aload_n 0, 1) := by decide +kernel
theorem d_law_506 : decode code 506 = .ok (.iload 4, 2) := by decide +kernel
theorem d_law_508 : decode code 508 = .ok (.iconst 1, 1) := by decide +kernel
theorem d_law_509 : decode code 509 = .ok (.iadd, 1) := by decide +kernel
theorem d_law_510 : decode code 510 = .ok (.iaload, 1) := by decide +kernel
theorem d_law_511 : decode code 511 = .ok (.aload_n 0, 1) := by decide +kernel
theorem d_law_512 : decode code 512 = .ok (.iload 4, 2) := by decide +kernel
theorem d_law_514 : decode code 514 = .ok (.iconst 2, 1) := by decide +kernel
theorem d_law_515 : decode code 515 = .ok (.iadd, 1) := by decide +kernel
theorem d_law_516 : decode code 516 = .ok (.iaload, 1) := by decide +kernel
theorem d_law_517 : decode code 517 = .ok (.i2l, 1) := by decide +kernel
theorem d_law_518 : decode code 518 = .ok (.bipush 32, 2) := by decide +kernel
theorem d_law_520 : decode code 520 = .ok (.lshl, 1) := by decide +kernel
theorem d_law_521 : decode code 521 = .ok (.aload_n 0, 1) := by decide +kernel
theorem d_law_522 : decode code 522 = .ok (.iload 4, 2) := by decide +kernel
theorem d_law_524 : decode code 524 = .ok (.iconst 3, 1) := by decide +kernel
theorem d_law_525 : decode code 525 = .ok (.iadd, 1) := by decide +kernel
theorem d_law_526 : decode code 526 = .ok (.iaload, 1) := by decide +kernel
theorem d_law_527 : decode code 527 = .ok (.i2l, 1) := by decide +kernel
theorem d_law_528 : decode code 528 = .ok (.ldc2_w 70, 3) := by decide +kernel
theorem d_law_531 : decode code 531 = .ok (.land, 1) := by decide +kernel
theorem d_law_532 : decode code 532 = .ok (.lor, 1) := by decide +kernel
theorem d_law_533 : decode code 533 = .ok (.aload_n 0, 1) := by decide +kernel
theorem d_law_534 : decode code 534 = .ok (.iload 4, 2) := by decide +kernel
theorem d_law_536 : decode code 536 = .ok (.iconst 4, 1) := by decide +kernel
theorem d_law_537 : decode code 537 = .ok (.iadd, 1) := by decide +kernel
theorem d_law_538 : decode code 538 = .ok (.iaload, 1) := by decide +kernel
theorem d_law_539 : decode code 539 = .ok (.i2l, 1) := by decide +kernel
theorem d_law_540 : decode code 540 = .ok (.bipush 32, 2) := by decide +kernel
theorem d_law_542 : decode code 542 = .ok (.lshl, 1) := by decide +kernel
theorem d_law_543 : decode code 543 = .ok (.aload_n 0, 1) := by decide +kernel
theorem d_law_544 : decode code 544 = .ok (.iload 4, 2) := by decide +kernel
theorem d_law_546 : decode code 546 = .ok (.iconst 5, 1) := by decide +kernel
theorem d_law_547 : decode code 547 = .ok (.iadd, 1) := by decide +kernel
theorem d_law_548 : decode code 548 = .ok (.iaload, 1) := by decide +kernel
theorem d_law_549 : decode code 549 = .ok (.i2l, 1) := by decide +kernel
theorem d_law_550 : decode code 550 = .ok (.ldc2_w 70, 3) := by decide +kernel
theorem d_law_553 : decode code 553 = .ok (.land, 1) := by decide +kernel
theorem d_law_554 : decode code 554 = .ok (.lor, 1) := by decide +kernel
theorem d_law_555 : decode code 555 = .ok (.invokevirtual 88, 3) := by decide +kernel
theorem d_law_558 : decode code 558 = .ok (.istore 6, 2) := by decide +kernel
theorem d_law_560 : decode code 560 = .ok (.aload_n 2, 1) := by decide +kernel
theorem d_law_561 : decode code 561 = .ok (.invokevirtual 78, 3) := by decide +kernel
theorem d_law_564 : decode code 564 = .ok (.iload 5, 2) := by decide +kernel
theorem d_law_566 : decode code 566 = .ok (.if_icmp .eq 5, 3) := by decide +kernel
theorem d_law_569 : decode code 569 = .ok (.iconst 0, 1) := by decide +kernel
theorem d_law_570 : decode code 570 = .ok (.ireturn, 1) := by decide +kernel
theorem d_law_571 : decode code 571 = .ok (.iload 5, 2) := by decide +kernel
theorem d_law_573 : decode code 573 = .ok (.ifCond .ne 15, 3) := by decide +kernel
theorem d_law_576 : decode code 576 = .ok (.aload_n 3, 1) := by decide +kernel
theorem d_law_577 : decode code 577 = .ok (.iconst 0, 1) := by decide +kernel
theorem d_law_578 : decode code 578 = .ok (.laload, 1) := by decide +kernel
theorem d_law_579 : decode code 579 = .ok (.iload 6, 2) := by decide +kernel
theorem d_law_581 : decode code 581 = .ok (.i2l, 1) := by decide +kernel
theorem d_law_582 : decode code 582 = .ok (.lcmp, 1) := by decide +kernel
theorem d_law_583 : decode code 583 = .ok (.ifCond .eq 5, 3) := by decide +kernel
theorem d_law_586 : decode code 586 = .ok (.iconst 0, 1) := by decide +kernel
theorem d_law_587 : decode code 587 = .ok (.ireturn, 1) := by decide +kernel
theorem d_law_588 : decode code 588 = .ok (.goto 1377, 3) := by decide +kernel
set_option maxHeartbeats 16000000 in
set_option maxRecDepth 100000 in
theorem bk_makeKey_g {p : Program} {l : Launch} {e : Env} {s : State} {m : MethodId} {below : List Frame} {meth : Method} {c : Code} {b L : Nat} {xs : Nat → Int32} {dC : Nat → ClassId} {dI : Nat → Nat → Nat} {cJ cI cR : ClassId} {A : Nat → Prop} {out b0 m0 : Nat} {rA sA wA : Nat} (C : LC p l s m meth c b L xs dC dI cJ cI cR A rA sA wA) {i cells slots : Nat} (hi : i + 14 ≤ L) (hcs : cells + 20 ≤ 601024 ∧ slots + 200 ≤ 7293034) (cont : LK p l e s m below meth c b dC dI cJ cI cR A out b0 m0 i (cells + 20) (slots + 200) 1965) {H : Heap} {locs : List Loc} {ls : Array Slot} (hS : va_S A s.heap H locs) (hI : LG dC dI cJ cI cR A out b0 m0 H) (hl : lv_has ls 8 [(4, .int (nI i)), (3, .ref out), (2, .ref m0), (1, .ref b0), (0, .ref b)]) : W p l e room_1 s m #[Value.ref b] below meth c H locs cells slots (lw_Z below #[Value.ref b] s) (F0 m 447 ls []) := by
  obtain ⟨hnt, ⟨hx, hb, hr, hml, hown, hts0, hX, hbl, hlocks, hgv⟩, hK, hA, hbA, hZha, hZx, hZn, hZw, hL⟩ := C
  have hown : s.vm.findClass "BallotBoardLaw" = some m.cls := hown
  have hts := lw_hts hts0
  refine hI _ (fun bd0 pr0 t0 au0 da h0 ro lo rb lb cm aw ax ay ka aa ba sa tu0 uka uaa uba usa a0 a1 a2 a3 a4 a5 a6 a7 a8 a9 mb0 mb1 oc mb2 mb3 mb4 mb5 cL of w tf nf cf ky lf md sh ccf csc cst bf sc st kf sf vf ct gu d0 d1 d2 d3 d4 d5 d6 d7 e0 R Lk g0 mF mE P f1 k1 Q f2 k2 G N n sd bc al pa pb cl T T0 kd wh hP hD hR => ?_)
  have q1 := hR.1.2.2.2.1.1
  subst q1
  have q2 := hR.2.2.2.1.1
  subst q2
  have q3 := hR.2.2.2.1.2.1
  subst q3
  have q4 := hR.2.2.2.1.2.2.1
  subst q4
  have q5 := hR.2.2.2.1.2.2.2.1
  subst q5
  have q6 := hR.2.2.2.1.2.2.2.2.1
  subst q6
  obtain ⟨⟨hok, htok, hN0, htn, hkc, hn⟩, ⟨hnO, hnS, hn0S, hn0B, hbc, hsc, hsh0⟩, ⟨hgr, hrk, hrs, hrb, hko, hkP⟩, ⟨hal, hclN, hky, hpa, hmd, haP, hbP⟩, ⟨hsP, hsp, hpb, hwf, hEI, hnfR, hcfR, hkf⟩, ⟨hnfk, hkq, hsd, hsn, hsdd, h0k, hkca⟩, ⟨hPQ, h61F, hQ3, hG2, hGP, hGQ⟩, hTt, hTt0, hRT⟩ := LG_facts hR
  obtain ⟨x1, hx1⟩ : ∃ v, v = xs (i + 1) := ⟨_, rfl⟩
  obtain ⟨x2, hx2⟩ : ∃ v, v = jl (xs (i + 2)) (xs (i + 3)) := ⟨_, rfl⟩
  obtain ⟨x3, hx3⟩ : ∃ v, v = jl (xs (i + 4)) (xs (i + 5)) := ⟨_, rfl⟩
  by_cases hC1 : kC1 (t_tn T) (t_sht T) (t_ko T) x1
  · -- it holds
    refine lv_aload_n hx hb d_law_447 rfl (lv_at hl 3 rfl) ?_
    refine lv_aload_n hx hb d_law_448 rfl (lv_at hl 4 rfl) ?_
    refine lv_iload hx hb d_law_449 (lv_at hl 0 rfl) ?_
    refine lv_iconst (v := 1) hx hb d_law_451 (by decide) ?_
    refine lv_iadd hx hb d_law_452 ?_
    rw [show ((nI i) + 1 : Int32) = nI (i + 1) from nI_add _ 1]
    refine va_sld hx hb hX hbl hbA hS (vp_in_nI (by omega) (by omega)) d_law_453 ?_
    rw [show (xs (nI (i + 1)).toNatClampNeg : Int32) = xs (i + 1) from by rw [nI_clamp (by omega)]]
    rw [show (xs (i + 1) : Int32) = x1 from hx1.symm]
    refine lv_aload_n hx hb d_law_454 rfl (lv_at hl 4 rfl) ?_
    refine lv_iload hx hb d_law_455 (lv_at hl 0 rfl) ?_
    refine lv_iconst (v := 2) hx hb d_law_457 (by decide) ?_
    refine lv_iadd hx hb d_law_458 ?_
    rw [show ((nI i) + 2 : Int32) = nI (i + 2) from nI_add _ 2]
    refine va_sld hx hb hX hbl hbA hS (vp_in_nI (by omega) (by omega)) d_law_459 ?_
    rw [show (xs (nI (i + 2)).toNatClampNeg : Int32) = xs (i + 2) from by rw [nI_clamp (by omega)]]
    refine lv_i2l (v := (xs (i + 2) : Int32).toInt64) hx hb d_law_460 rfl ?_
    refine lv_bipush (v := 32) hx hb d_law_461 (by decide) ?_
    refine lv_lshl (v := ((xs (i + 2) : Int32).toInt64 : Int64) <<< ((32 : Int32).toInt64 &&& 63)) hx hb d_law_463 rfl ?_
    refine lv_aload_n hx hb d_law_464 rfl (lv_at hl 4 rfl) ?_
    refine lv_iload hx hb d_law_465 (lv_at hl 0 rfl) ?_
    refine lv_iconst (v := 3) hx hb d_law_467 (by decide) ?_
    refine lv_iadd hx hb d_law_468 ?_
    rw [show ((nI i) + 3 : Int32) = nI (i + 3) from nI_add _ 3]
    refine va_sld hx hb hX hbl hbA hS (vp_in_nI (by omega) (by omega)) d_law_469 ?_
    rw [show (xs (nI (i + 3)).toNatClampNeg : Int32) = xs (i + 3) from by rw [nI_clamp (by omega)]]
    refine lv_i2l (v := (xs (i + 3) : Int32).toInt64) hx hb d_law_470 rfl ?_
    refine lv_ldc2 (v := 4294967295) hx hb hown (hts _ (List.mem_cons_of_mem _ gk_1202)) d_law_471 ?_
    refine lv_land hx hb d_law_474 ?_
    refine lv_lor hx hb d_law_475 ?_
    rw [show ((((xs (i + 2) : Int32).toInt64 : Int64) <<< ((32 : Int32).toInt64 &&& 63)) ||| (((xs (i + 3) : Int32).toInt64) &&& 4294967295) : Int64) = x2 from hx2.symm]
    refine lv_aload_n hx hb d_law_476 rfl (lv_at hl 4 rfl) ?_
    refine lv_iload hx hb d_law_477 (lv_at hl 0 rfl) ?_
    refine lv_iconst (v := 4) hx hb d_law_479 (by decide) ?_
    refine lv_iadd hx hb d_law_480 ?_
    rw [show ((nI i) + 4 : Int32) = nI (i + 4) from nI_add _ 4]
    refine va_sld hx hb hX hbl hbA hS (vp_in_nI (by omega) (by omega)) d_law_481 ?_
    rw [show (xs (nI (i + 4)).toNatClampNeg : Int32) = xs (i + 4) from by rw [nI_clamp (by omega)]]
    refine lv_i2l (v := (xs (i + 4) : Int32).toInt64) hx hb d_law_482 rfl ?_
    refine lv_bipush (v := 32) hx hb d_law_483 (by decide) ?_
    refine lv_lshl (v := ((xs (i + 4) : Int32).toInt64 : Int64) <<< ((32 : Int32).toInt64 &&& 63)) hx hb d_law_485 rfl ?_
    refine lv_aload_n hx hb d_law_486 rfl (lv_at hl 4 rfl) ?_
    refine lv_iload hx hb d_law_487 (lv_at hl 0 rfl) ?_
    refine lv_iconst (v := 5) hx hb d_law_489 (by decide) ?_
    refine lv_iadd hx hb d_law_490 ?_
    rw [show ((nI i) + 5 : Int32) = nI (i + 5) from nI_add _ 5]
    refine va_sld hx hb hX hbl hbA hS (vp_in_nI (by omega) (by omega)) d_law_491 ?_
    rw [show (xs (nI (i + 5)).toNatClampNeg : Int32) = xs (i + 5) from by rw [nI_clamp (by omega)]]
    refine lv_i2l (v := (xs (i + 5) : Int32).toInt64) hx hb d_law_492 rfl ?_
    refine lv_ldc2 (v := 4294967295) hx hb hown (hts _ (List.mem_cons_of_mem _ gk_1202)) d_law_493 ?_
    refine lv_land hx hb d_law_496 ?_
    refine lv_lor hx hb d_law_497 ?_
    rw [show ((((xs (i + 4) : Int32).toInt64 : Int64) <<< ((32 : Int32).toInt64 &&& 63)) ||| (((xs (i + 5) : Int32).toInt64) &&& 4294967295) : Int64) = x3 from hx3.symm]
    refine lv_aload_n hx hb d_law_498 rfl (lv_at hl 1 rfl) ?_
    have hPc := hP.part (cx := (jw_ws out cJ 1 of ++ (bb_ws b0 bd0 pr0 t0 au0 da (.ref g0) ++ (rw_ws da cJ (r8 d0 d1 d2 d3 d4 d5 d6 d7) ++ (bd_ws bd0 h0 ro lo n cR (rrf rb) (rrf lb) ++ (pr_ws pr0 h0 cm cJ ccf ++ (ha_ws h0 aw ax ay cJ cI w csc cst cL ++ (tt_ws t0 ka aa ba sa (.ref g0) cJ T ++ gp_ws g0 mF mE P f1 k1 Q f2 k2 G)))))))) [0, 1, 2, 3, 4, 5, 6, 7, 8, 9, 10, 11, 12, 13, 14, 15, 16, 23, 24, 25] rfl
    have hDc := hD.part (cx := (jw_ws out cJ 1 of ++ (bb_ws b0 bd0 pr0 t0 au0 da (.ref g0) ++ (rw_ws da cJ (r8 d0 d1 d2 d3 d4 d5 d6 d7) ++ (bd_ws bd0 h0 ro lo n cR (rrf rb) (rrf lb) ++ (pr_ws pr0 h0 cm cJ ccf ++ (ha_ws h0 aw ax ay cJ cI w csc cst cL ++ (tt_ws t0 ka aa ba sa (.ref g0) cJ T ++ gp_ws g0 mF mE P f1 k1 Q f2 k2 G)))))))) [0, 1, 2, 3, 4, 5, 6, 7, 8, 9, 10, 11, 12, 13, 14, 15, 16, 23, 24, 25] (by decide) rfl
    have hKc := hK.sub (tys' := [(cJ, .long), (cI, .int), (cR, .array .long)]) [0, 1, 2] rfl
    have hFc := va_freeP (cx := (jw_ws out cJ 1 of ++ (bb_ws b0 bd0 pr0 t0 au0 da (.ref g0) ++ (rw_ws da cJ (r8 d0 d1 d2 d3 d4 d5 d6 d7) ++ (bd_ws bd0 h0 ro lo n cR (rrf rb) (rrf lb) ++ (pr_ws pr0 h0 cm cJ ccf ++ (ha_ws h0 aw ax ay cJ cI w csc cst cL ++ (tt_ws t0 ka aa ba sa (.ref g0) cJ T ++ gp_ws g0 mF mE P f1 k1 Q f2 k2 G)))))))) hD hS hA [0, 1, 2, 3, 4, 5, 6, 7, 8, 9, 10, 11, 12, 13, 14, 15, 16, 23, 24, 25] rfl
    have hZc0 : ha_Z rA sA (va_A ((jw_ws out cJ 1 of ++ (bb_ws b0 bd0 pr0 t0 au0 da (.ref g0) ++ (rw_ws da cJ (r8 d0 d1 d2 d3 d4 d5 d6 d7) ++ (bd_ws bd0 h0 ro lo n cR (rrf rb) (rrf lb) ++ (pr_ws pr0 h0 cm cJ ccf ++ (ha_ws h0 aw ax ay cJ cI w csc cst cL ++ (tt_ws t0 ka aa ba sa (.ref g0) cJ T ++ gp_ws g0 mF mE P f1 k1 Q f2 k2 G))))))) ++ bpool rb lb cJ R Lk) H.size) s H := (hZha.kept hS.2.1).narrow hFc
    have hZc1 : xz (va_A ((jw_ws out cJ 1 of ++ (bb_ws b0 bd0 pr0 t0 au0 da (.ref g0) ++ (rw_ws da cJ (r8 d0 d1 d2 d3 d4 d5 d6 d7) ++ (bd_ws bd0 h0 ro lo n cR (rrf rb) (rrf lb) ++ (pr_ws pr0 h0 cm cJ ccf ++ (ha_ws h0 aw ax ay cJ cI w csc cst cL ++ (tt_ws t0 ka aa ba sa (.ref g0) cJ T ++ gp_ws g0 mF mE P f1 k1 Q f2 k2 G))))))) ++ bpool rb lb cJ R Lk) H.size) s H := (hZx.kept hS.2.1).narrow hFc
    have hZc2 : nc_Z s := hZn
    refine vx_calli (vx_runSX (hh := h_Lw_makeKey) (As := [.ref b0, .int x1, .long x2, .long x3, .ref out]) (rest := []) ⟨hx, hb, hml, hown, hts⟩ (c_Lw_makeKey_1 l hnt dC dI cJ cI cR H.size b0 bd0 pr0 t0 au0 da h0 ro lo n rb lb cm ccf aw ax ay w csc cst cL ka aa ba sa T g0 mF mE P f1 k1 Q f2 k2 G rA sA R Lk d0 d1 d2 d3 d4 d5 d6 d7 x1 x2 x3 out of hok htok hN0 htn hkc hn hnO hC1) (vx_cwSW 5 hts (gw_Sv gk_599 gk_600 gk_0 gk_601) rfl rfl rfl (by decide +kernel) ⟨(Nat.le_of_ble_eq_true rfl), (Nat.le_of_ble_eq_true rfl)⟩) ⟨fun a U g mk q => by obtain ⟨q0, q1, qP, qK, qD, qZ0, qZ1, qZ2⟩ := q; exact ⟨q0, q1, qP, va_K.moved (u := U) (U := U.calling g mk a) (Vm.Alike.refl U.vm) qK, qD, ha_Z.moved (u := U) (U := U.calling g mk a) (Vm.Alike.refl U.vm) qZ0, xz.same (u := U) (U := U.calling g mk a) rfl qZ1, nc_Z.moved (u := U) (U := U.calling g mk a) (Vm.Alike.refl U.vm) qZ2⟩, fun U hU hW => ⟨rfl, by rw [hU], by rw [hU]; exact hPc, va_K.moved hW.alike hKc, hDc.weaken (fun _ _ _ _ => trivial), by rw [hU]; exact ha_Z.moved hW.alike hZc0, by rw [hU]; exact xz.warm hW hZc1, nc_Z.moved hW.alike hZc2⟩⟩ rfl rfl hl.1 rfl (lv_room (Nat.le_of_ble_eq_true rfl)) d_law_499 ⟨show cells + 8 ≤ 601024 by omega, show slots + 48 ≤ 7293034 by omega⟩) hS (fun q _ h => hFc q h) hFc (fun q _ h => hFc q h) (fun E9 ce9 q9 u8 t9 H1 locs ht hvm hpx hbx hz1 hk1 hS hce hcv hcl => hpx.elim) (fun r_1 u9 t9 H1 locs ht hvm hw hB hz1 hk1 hS => ?_)
    obtain ⟨hP1, hK1, hD1⟩ := hB
    rw [ht] at hP1
    obtain ⟨hP, hD⟩ := va_joinP (X := (jw_ws out cJ 1 of ++ (bb_ws b0 bd0 pr0 t0 au0 da (.ref g0) ++ (rw_ws da cJ (r8 d0 d1 d2 d3 d4 d5 d6 d7) ++ (bd_ws bd0 h0 ro lo n cR (rrf rb) (rrf lb) ++ (pr_ws pr0 h0 cm cJ ccf ++ (ha_ws h0 aw ax ay cJ cI w csc cst cL ++ (tt_ws t0 ka aa ba sa (.ref g0) cJ T ++ (au_ws au0 bd0 pr0 tu0 sd ++ (tt_ws tu0 uka uaa uba usa gu cJ T0 ++ (gp_ws g0 mF mE P f1 k1 Q f2 k2 G ++ (mo_ws m0 e0 (nI (t_tn T)) (nI n) (nI (t_bc T)) (lN P) (lN Q) (lN G) (lN (ckey (t_tn T) (t_kc T) (t_kp T))) (lN (t_pa T)) (lN (t_pb T)) (t_sht T) a0 a1 a2 a3 a4 a5 a6 a7 a8 a9 mb0 mb1 oc mb2 mb3 mb4 mb5 ++ (iw_ws a7 cI 256 bf ++ (iw_ws a8 cI 64 sc ++ (iw_ws a9 cI 8 st ++ (iw_ws mb0 cI 8 kS ++ (iw_ws mb1 cI 64 kR ++ (jw_ws a2 cJ 4 tf ++ (jw_ws a0 cJ 1232 nf ++ (jw_ws a1 cJ 616 cf ++ (iw_ws a4 cI 4 kf ++ (jw_ws mb2 cJ 4 ky ++ (jw_ws a3 cJ 16 lf ++ (iw_ws a5 cI 4 sf ++ (iw_ws a6 cI 64 vf ++ (jw_ws mb3 cJ 128 md ++ (jw_ws mb4 cJ 4 sh ++ iw_ws mb5 cI 64 ct))))))))))))))))))))))))))) (cx := (jw_ws out cJ 1 of ++ (bb_ws b0 bd0 pr0 t0 au0 da (.ref g0) ++ (rw_ws da cJ (r8 d0 d1 d2 d3 d4 d5 d6 d7) ++ (bd_ws bd0 h0 ro lo n cR (rrf rb) (rrf lb) ++ (pr_ws pr0 h0 cm cJ ccf ++ (ha_ws h0 aw ax ay cJ cI w csc cst cL ++ (tt_ws t0 ka aa ba sa (.ref g0) cJ T ++ gp_ws g0 mF mE P f1 k1 Q f2 k2 G)))))))) (wr := (au_ws au0 bd0 pr0 tu0 sd ++ (tt_ws tu0 uka uaa uba usa gu cJ T0 ++ (mo_ws m0 e0 (nI (t_tn T)) (nI n) (nI (t_bc T)) (lN P) (lN Q) (lN G) (lN (ckey (t_tn T) (t_kc T) (t_kp T))) (lN (t_pa T)) (lN (t_pb T)) (t_sht T) a0 a1 a2 a3 a4 a5 a6 a7 a8 a9 mb0 mb1 oc mb2 mb3 mb4 mb5 ++ (iw_ws a7 cI 256 bf ++ (iw_ws a8 cI 64 sc ++ (iw_ws a9 cI 8 st ++ (iw_ws mb0 cI 8 kS ++ (iw_ws mb1 cI 64 kR ++ (jw_ws a2 cJ 4 tf ++ (jw_ws a0 cJ 1232 nf ++ (jw_ws a1 cJ 616 cf ++ (iw_ws a4 cI 4 kf ++ (jw_ws mb2 cJ 4 ky ++ (jw_ws a3 cJ 16 lf ++ (iw_ws a5 cI 4 sf ++ (iw_ws a6 cI 64 vf ++ (jw_ws mb3 cJ 128 md ++ (jw_ws mb4 cJ 4 sh ++ iw_ws mb5 cI 64 ct))))))))))))))))))) (rx := (jw_ws out cJ 1 of ++ (bb_ws b0 bd0 pr0 t0 au0 da (.ref g0) ++ (rw_ws da cJ (r8 u9.1.1 u9.1.2.1 u9.1.2.2.1 u9.1.2.2.2.1 u9.1.2.2.2.2.1 u9.1.2.2.2.2.2.1 u9.1.2.2.2.2.2.2.1 u9.1.2.2.2.2.2.2.2) ++ (bd_ws bd0 h0 ro lo n cR (rrf rb) (rrf lb) ++ (pr_ws pr0 h0 cm cJ u9.2.1 ++ (hu_ws h0 aw ax ay cJ cI u9.2.2 ++ (tt_ws t0 ka aa ba sa (.ref g0) cJ T ++ gp_ws g0 mF mE P f1 k1 Q f2 k2 G)))))))) (pl := bpool rb lb cJ R Lk) (pl1 := bpool rb lb cJ R Lk) hP hD [0, 1, 2, 3, 4, 5, 6, 7, 8, 9, 10, 11, 12, 13, 14, 15, 16, 23, 24, 25] [17, 18, 19, 20, 21, 22, 26, 27, 28, 29, 30, 31, 32, 33, 34, 35, 36, 37, 38, 39, 40, 41, 42] rfl rfl (by decide) (by decide) hk1 hFc hP1 hD1
    have hP := hP.part (cx := (jw_ws out cJ 1 of ++ (bb_ws b0 bd0 pr0 t0 au0 da (.ref g0) ++ (rw_ws da cJ (r8 u9.1.1 u9.1.2.1 u9.1.2.2.1 u9.1.2.2.2.1 u9.1.2.2.2.2.1 u9.1.2.2.2.2.2.1 u9.1.2.2.2.2.2.2.1 u9.1.2.2.2.2.2.2.2) ++ (bd_ws bd0 h0 ro lo n cR (rrf rb) (rrf lb) ++ (pr_ws pr0 h0 cm cJ u9.2.1 ++ (hu_ws h0 aw ax ay cJ cI u9.2.2 ++ (tt_ws t0 ka aa ba sa (.ref g0) cJ T ++ (au_ws au0 bd0 pr0 tu0 sd ++ (tt_ws tu0 uka uaa uba usa gu cJ T0 ++ (gp_ws g0 mF mE P f1 k1 Q f2 k2 G ++ (mo_ws m0 e0 (nI (t_tn T)) (nI n) (nI (t_bc T)) (lN P) (lN Q) (lN G) (lN (ckey (t_tn T) (t_kc T) (t_kp T))) (lN (t_pa T)) (lN (t_pb T)) (t_sht T) a0 a1 a2 a3 a4 a5 a6 a7 a8 a9 mb0 mb1 oc mb2 mb3 mb4 mb5 ++ (iw_ws a7 cI 256 bf ++ (iw_ws a8 cI 64 sc ++ (iw_ws a9 cI 8 st ++ (iw_ws mb0 cI 8 kS ++ (iw_ws mb1 cI 64 kR ++ (jw_ws a2 cJ 4 tf ++ (jw_ws a0 cJ 1232 nf ++ (jw_ws a1 cJ 616 cf ++ (iw_ws a4 cI 4 kf ++ (jw_ws mb2 cJ 4 ky ++ (jw_ws a3 cJ 16 lf ++ (iw_ws a5 cI 4 sf ++ (iw_ws a6 cI 64 vf ++ (jw_ws mb3 cJ 128 md ++ (jw_ws mb4 cJ 4 sh ++ iw_ws mb5 cI 64 ct))))))))))))))))))))))))))) [23, 24, 25, 26, 27, 28, 29, 30, 31, 32, 33, 34, 35, 36, 37, 38, 39, 0, 1, 2, 3, 4, 5, 40, 41, 42, 6, 7, 8, 9, 10, 11, 12, 13, 14, 15, 16, 17, 18, 19, 20, 21, 22] rfl
    have hD := hD.part (cx := (jw_ws out cJ 1 of ++ (bb_ws b0 bd0 pr0 t0 au0 da (.ref g0) ++ (rw_ws da cJ (r8 u9.1.1 u9.1.2.1 u9.1.2.2.1 u9.1.2.2.2.1 u9.1.2.2.2.2.1 u9.1.2.2.2.2.2.1 u9.1.2.2.2.2.2.2.1 u9.1.2.2.2.2.2.2.2) ++ (bd_ws bd0 h0 ro lo n cR (rrf rb) (rrf lb) ++ (pr_ws pr0 h0 cm cJ u9.2.1 ++ (hu_ws h0 aw ax ay cJ cI u9.2.2 ++ (tt_ws t0 ka aa ba sa (.ref g0) cJ T ++ (au_ws au0 bd0 pr0 tu0 sd ++ (tt_ws tu0 uka uaa uba usa gu cJ T0 ++ (gp_ws g0 mF mE P f1 k1 Q f2 k2 G ++ (mo_ws m0 e0 (nI (t_tn T)) (nI n) (nI (t_bc T)) (lN P) (lN Q) (lN G) (lN (ckey (t_tn T) (t_kc T) (t_kp T))) (lN (t_pa T)) (lN (t_pb T)) (t_sht T) a0 a1 a2 a3 a4 a5 a6 a7 a8 a9 mb0 mb1 oc mb2 mb3 mb4 mb5 ++ (iw_ws a7 cI 256 bf ++ (iw_ws a8 cI 64 sc ++ (iw_ws a9 cI 8 st ++ (iw_ws mb0 cI 8 kS ++ (iw_ws mb1 cI 64 kR ++ (jw_ws a2 cJ 4 tf ++ (jw_ws a0 cJ 1232 nf ++ (jw_ws a1 cJ 616 cf ++ (iw_ws a4 cI 4 kf ++ (jw_ws mb2 cJ 4 ky ++ (jw_ws a3 cJ 16 lf ++ (iw_ws a5 cI 4 sf ++ (iw_ws a6 cI 64 vf ++ (jw_ws mb3 cJ 128 md ++ (jw_ws mb4 cJ 4 sh ++ iw_ws mb5 cI 64 ct))))))))))))))))))))))))))) [23, 24, 25, 26, 27, 28, 29, 30, 31, 32, 33, 34, 35, 36, 37, 38, 39, 0, 1, 2, 3, 4, 5, 40, 41, 42, 6, 7, 8, 9, 10, 11, 12, 13, 14, 15, 16, 17, 18, 19, 20, 21, 22] (by decide) rfl
    generalize H1 = H at hP hS ⊢
    clear hPc hDc hFc hP1 hD1 hK1 ht hk1 hz1
    have hr9 : r_1 = 1 := hw
    subst hr9
    refine lv_istore (lv' := [(5, .int 1), (4, .int (nI i)), (3, .ref out), (2, .ref m0), (1, .ref b0), (0, .ref b)]) hx hb d_law_502 hl (by decide) rfl (fun ls hl => ?_)
    refine lv_aload_n hx hb d_law_504 rfl (lv_at hl 3 rfl) ?_
    refine lv_aload_n hx hb d_law_505 rfl (lv_at hl 5 rfl) ?_
    refine lv_iload hx hb d_law_506 (lv_at hl 1 rfl) ?_
    refine lv_iconst (v := 1) hx hb d_law_508 (by decide) ?_
    refine lv_iadd hx hb d_law_509 ?_
    rw [show ((nI i) + 1 : Int32) = nI (i + 1) from nI_add _ 1]
    refine va_sld hx hb hX hbl hbA hS (vp_in_nI (by omega) (by omega)) d_law_510 ?_
    rw [show (xs (nI (i + 1)).toNatClampNeg : Int32) = xs (i + 1) from by rw [nI_clamp (by omega)]]
    rw [show (xs (i + 1) : Int32) = x1 from hx1.symm]
    refine lv_aload_n hx hb d_law_511 rfl (lv_at hl 5 rfl) ?_
    refine lv_iload hx hb d_law_512 (lv_at hl 1 rfl) ?_
    refine lv_iconst (v := 2) hx hb d_law_514 (by decide) ?_
    refine lv_iadd hx hb d_law_515 ?_
    rw [show ((nI i) + 2 : Int32) = nI (i + 2) from nI_add _ 2]
    refine va_sld hx hb hX hbl hbA hS (vp_in_nI (by omega) (by omega)) d_law_516 ?_
    rw [show (xs (nI (i + 2)).toNatClampNeg : Int32) = xs (i + 2) from by rw [nI_clamp (by omega)]]
    refine lv_i2l (v := (xs (i + 2) : Int32).toInt64) hx hb d_law_517 rfl ?_
    refine lv_bipush (v := 32) hx hb d_law_518 (by decide) ?_
    refine lv_lshl (v := ((xs (i + 2) : Int32).toInt64 : Int64) <<< ((32 : Int32).toInt64 &&& 63)) hx hb d_law_520 rfl ?_
    refine lv_aload_n hx hb d_law_521 rfl (lv_at hl 5 rfl) ?_
    refine lv_iload hx hb d_law_522 (lv_at hl 1 rfl) ?_
    refine lv_iconst (v := 3) hx hb d_law_524 (by decide) ?_
    refine lv_iadd hx hb d_law_525 ?_
    rw [show ((nI i) + 3 : Int32) = nI (i + 3) from nI_add _ 3]
    refine va_sld hx hb hX hbl hbA hS (vp_in_nI (by omega) (by omega)) d_law_526 ?_
    rw [show (xs (nI (i + 3)).toNatClampNeg : Int32) = xs (i + 3) from by rw [nI_clamp (by omega)]]
    refine lv_i2l (v := (xs (i + 3) : Int32).toInt64) hx hb d_law_527 rfl ?_
    refine lv_ldc2 (v := 4294967295) hx hb hown (hts _ (List.mem_cons_of_mem _ gk_1202)) d_law_528 ?_
    refine lv_land hx hb d_law_531 ?_
    refine lv_lor hx hb d_law_532 ?_
    rw [show ((((xs (i + 2) : Int32).toInt64 : Int64) <<< ((32 : Int32).toInt64 &&& 63)) ||| (((xs (i + 3) : Int32).toInt64) &&& 4294967295) : Int64) = x2 from hx2.symm]
    refine lv_aload_n hx hb d_law_533 rfl (lv_at hl 5 rfl) ?_
    refine lv_iload hx hb d_law_534 (lv_at hl 1 rfl) ?_
    refine lv_iconst (v := 4) hx hb d_law_536 (by decide) ?_
    refine lv_iadd hx hb d_law_537 ?_
    rw [show ((nI i) + 4 : Int32) = nI (i + 4) from nI_add _ 4]
    refine va_sld hx hb hX hbl hbA hS (vp_in_nI (by omega) (by omega)) d_law_538 ?_
    rw [show (xs (nI (i + 4)).toNatClampNeg : Int32) = xs (i + 4) from by rw [nI_clamp (by omega)]]
    refine lv_i2l (v := (xs (i + 4) : Int32).toInt64) hx hb d_law_539 rfl ?_
    refine lv_bipush (v := 32) hx hb d_law_540 (by decide) ?_
    refine lv_lshl (v := ((xs (i + 4) : Int32).toInt64 : Int64) <<< ((32 : Int32).toInt64 &&& 63)) hx hb d_law_542 rfl ?_
    refine lv_aload_n hx hb d_law_543 rfl (lv_at hl 5 rfl) ?_
    refine lv_iload hx hb d_law_544 (lv_at hl 1 rfl) ?_
    refine lv_iconst (v := 5) hx hb d_law_546 (by decide) ?_
    refine lv_iadd hx hb d_law_547 ?_
    rw [show ((nI i) + 5 : Int32) = nI (i + 5) from nI_add _ 5]
    refine va_sld hx hb hX hbl hbA hS (vp_in_nI (by omega) (by omega)) d_law_548 ?_
    rw [show (xs (nI (i + 5)).toNatClampNeg : Int32) = xs (i + 5) from by rw [nI_clamp (by omega)]]
    refine lv_i2l (v := (xs (i + 5) : Int32).toInt64) hx hb d_law_549 rfl ?_
    refine lv_ldc2 (v := 4294967295) hx hb hown (hts _ (List.mem_cons_of_mem _ gk_1202)) d_law_550 ?_
    refine lv_land hx hb d_law_553 ?_
    refine lv_lor hx hb d_law_554 ?_
    rw [show ((((xs (i + 4) : Int32).toInt64 : Int64) <<< ((32 : Int32).toInt64 &&& 63)) ||| (((xs (i + 5) : Int32).toInt64) &&& 4294967295) : Int64) = x3 from hx3.symm]
    have hPc := hP.sub (ws' := (mo_ws m0 e0 (nI (t_tn T)) (nI n) (nI (t_bc T)) (lN P) (lN Q) (lN G) (lN (ckey (t_tn T) (t_kc T) (t_kp T))) (lN (t_pa T)) (lN (t_pb T)) (t_sht T) a0 a1 a2 a3 a4 a5 a6 a7 a8 a9 mb0 mb1 oc mb2 mb3 mb4 mb5 ++ (iw_ws a7 cI 256 bf ++ (iw_ws a8 cI 64 sc ++ (iw_ws a9 cI 8 st ++ (iw_ws mb0 cI 8 kS ++ (iw_ws mb1 cI 64 kR ++ (jw_ws a2 cJ 4 tf ++ (jw_ws a0 cJ 1232 nf ++ (jw_ws a1 cJ 616 cf ++ (iw_ws a4 cI 4 kf ++ (jw_ws mb2 cJ 4 ky ++ jw_ws a3 cJ 16 lf)))))))))))) [26, 27, 28, 29, 30, 31, 32, 33, 34, 35, 36, 37] rfl
    have hDc := hD.sub (ws' := (mo_ws m0 e0 (nI (t_tn T)) (nI n) (nI (t_bc T)) (lN P) (lN Q) (lN G) (lN (ckey (t_tn T) (t_kc T) (t_kp T))) (lN (t_pa T)) (lN (t_pb T)) (t_sht T) a0 a1 a2 a3 a4 a5 a6 a7 a8 a9 mb0 mb1 oc mb2 mb3 mb4 mb5 ++ (iw_ws a7 cI 256 bf ++ (iw_ws a8 cI 64 sc ++ (iw_ws a9 cI 8 st ++ (iw_ws mb0 cI 8 kS ++ (iw_ws mb1 cI 64 kR ++ (jw_ws a2 cJ 4 tf ++ (jw_ws a0 cJ 1232 nf ++ (jw_ws a1 cJ 616 cf ++ (iw_ws a4 cI 4 kf ++ (jw_ws mb2 cJ 4 ky ++ jw_ws a3 cJ 16 lf)))))))))))) [26, 27, 28, 29, 30, 31, 32, 33, 34, 35, 36, 37] (by decide) rfl
    have hKc := hK.sub (tys' := [(cJ, .long), (cI, .int)]) [0, 1] rfl
    have hFc := va_free (wc := (mo_ws m0 e0 (nI (t_tn T)) (nI n) (nI (t_bc T)) (lN P) (lN Q) (lN G) (lN (ckey (t_tn T) (t_kc T) (t_kp T))) (lN (t_pa T)) (lN (t_pb T)) (t_sht T) a0 a1 a2 a3 a4 a5 a6 a7 a8 a9 mb0 mb1 oc mb2 mb3 mb4 mb5 ++ (iw_ws a7 cI 256 bf ++ (iw_ws a8 cI 64 sc ++ (iw_ws a9 cI 8 st ++ (iw_ws mb0 cI 8 kS ++ (iw_ws mb1 cI 64 kR ++ (jw_ws a2 cJ 4 tf ++ (jw_ws a0 cJ 1232 nf ++ (jw_ws a1 cJ 616 cf ++ (iw_ws a4 cI 4 kf ++ (jw_ws mb2 cJ 4 ky ++ jw_ws a3 cJ 16 lf)))))))))))) hD hS hA [26, 27, 28, 29, 30, 31, 32, 33, 34, 35, 36, 37] rfl
    refine va_calli (va_runV (As := [.int x1, .long x2, .long x3]) (rest := []) ⟨hx, hb, hml, hown, hts⟩ (c_Bm_makeKey_1 l dC dI cJ cI H.size m0 e0 (t_tn T) n (t_bc T) P Q G (ckey (t_tn T) (t_kc T) (t_kp T)) (t_pa T) (t_pb T) (t_sht T) a0 a1 a2 a3 a4 a5 a6 a7 a8 a9 mb0 mb1 oc mb2 mb3 mb4 mb5 bf sc st kf tf nf cf ky lf (t_ko T) x1 x2 x3 htn hgr hsh0 hn hrk hko hC1) (cwV 3 hts (gw_V gk_1113 gk_1114 gk_1115 gk_7 gk_1116) rfl rfl rfl (by decide +kernel) ⟨(Nat.le_of_ble_eq_true rfl), (Nat.le_of_ble_eq_true rfl)⟩) ⟨fun a U g mk q => by obtain ⟨q0, q1, qP, qK, qD⟩ := q; exact ⟨q0, q1, qP, va_K.moved (u := U) (U := U.calling g mk a) (Vm.Alike.refl U.vm) qK, qD⟩, va_recv hK hP (ci := 8) (q0 := 26) rfl rfl, fun U hU hW => ⟨rfl, by rw [hU], by rw [hU]; exact hPc, va_K.moved hW.alike hKc, hDc.weaken (fun _ _ _ _ => trivial)⟩⟩ rfl rfl hl.1 rfl (lv_room (Nat.le_of_ble_eq_true rfl)) d_law_555 ⟨show cells + 8 + 0 ≤ 601024 by omega, show slots + 48 + 0 ≤ 7293034 by omega⟩) hS (fun q _ h => hFc q h) hFc (fun r_2 v9 t9 H1 locs ht hvm hw hB hz1 hk1 hS => ?_)
    obtain ⟨hP1, hK1, hD1⟩ := hB
    rw [ht] at hP1
    obtain ⟨hP, hD⟩ := va_joinQ (X := (jw_ws out cJ 1 of ++ (bb_ws b0 bd0 pr0 t0 au0 da (.ref g0) ++ (rw_ws da cJ (r8 u9.1.1 u9.1.2.1 u9.1.2.2.1 u9.1.2.2.2.1 u9.1.2.2.2.2.1 u9.1.2.2.2.2.2.1 u9.1.2.2.2.2.2.2.1 u9.1.2.2.2.2.2.2.2) ++ (bd_ws bd0 h0 ro lo n cR (rrf rb) (rrf lb) ++ (pr_ws pr0 h0 cm cJ u9.2.1 ++ (hu_ws h0 aw ax ay cJ cI u9.2.2 ++ (tt_ws t0 ka aa ba sa (.ref g0) cJ T ++ (au_ws au0 bd0 pr0 tu0 sd ++ (tt_ws tu0 uka uaa uba usa gu cJ T0 ++ (gp_ws g0 mF mE P f1 k1 Q f2 k2 G ++ (mo_ws m0 e0 (nI (t_tn T)) (nI n) (nI (t_bc T)) (lN P) (lN Q) (lN G) (lN (ckey (t_tn T) (t_kc T) (t_kp T))) (lN (t_pa T)) (lN (t_pb T)) (t_sht T) a0 a1 a2 a3 a4 a5 a6 a7 a8 a9 mb0 mb1 oc mb2 mb3 mb4 mb5 ++ (iw_ws a7 cI 256 bf ++ (iw_ws a8 cI 64 sc ++ (iw_ws a9 cI 8 st ++ (iw_ws mb0 cI 8 kS ++ (iw_ws mb1 cI 64 kR ++ (jw_ws a2 cJ 4 tf ++ (jw_ws a0 cJ 1232 nf ++ (jw_ws a1 cJ 616 cf ++ (iw_ws a4 cI 4 kf ++ (jw_ws mb2 cJ 4 ky ++ (jw_ws a3 cJ 16 lf ++ (iw_ws a5 cI 4 sf ++ (iw_ws a6 cI 64 vf ++ (jw_ws mb3 cJ 128 md ++ (jw_ws mb4 cJ 4 sh ++ iw_ws mb5 cI 64 ct))))))))))))))))))))))))))) (cx := (mo_ws m0 e0 (nI (t_tn T)) (nI n) (nI (t_bc T)) (lN P) (lN Q) (lN G) (lN (ckey (t_tn T) (t_kc T) (t_kp T))) (lN (t_pa T)) (lN (t_pb T)) (t_sht T) a0 a1 a2 a3 a4 a5 a6 a7 a8 a9 mb0 mb1 oc mb2 mb3 mb4 mb5 ++ (iw_ws a7 cI 256 bf ++ (iw_ws a8 cI 64 sc ++ (iw_ws a9 cI 8 st ++ (iw_ws mb0 cI 8 kS ++ (iw_ws mb1 cI 64 kR ++ (jw_ws a2 cJ 4 tf ++ (jw_ws a0 cJ 1232 nf ++ (jw_ws a1 cJ 616 cf ++ (iw_ws a4 cI 4 kf ++ (jw_ws mb2 cJ 4 ky ++ jw_ws a3 cJ 16 lf)))))))))))) (wr := (jw_ws out cJ 1 of ++ (bb_ws b0 bd0 pr0 t0 au0 da (.ref g0) ++ (rw_ws da cJ (r8 u9.1.1 u9.1.2.1 u9.1.2.2.1 u9.1.2.2.2.1 u9.1.2.2.2.2.1 u9.1.2.2.2.2.2.1 u9.1.2.2.2.2.2.2.1 u9.1.2.2.2.2.2.2.2) ++ (bd_ws bd0 h0 ro lo n cR (rrf rb) (rrf lb) ++ (pr_ws pr0 h0 cm cJ u9.2.1 ++ (hu_ws h0 aw ax ay cJ cI u9.2.2 ++ (tt_ws t0 ka aa ba sa (.ref g0) cJ T ++ (au_ws au0 bd0 pr0 tu0 sd ++ (tt_ws tu0 uka uaa uba usa gu cJ T0 ++ (gp_ws g0 mF mE P f1 k1 Q f2 k2 G ++ (iw_ws a5 cI 4 sf ++ (iw_ws a6 cI 64 vf ++ (jw_ws mb3 cJ 128 md ++ (jw_ws mb4 cJ 4 sh ++ iw_ws mb5 cI 64 ct))))))))))))))) (w1 := (mo_ws m0 1 (nI (t_tn T)) (nI n) (nI (t_bc T)) (lN P) (lN Q) (lN G) (lN (ckey (t_tn T) (t_kc T) (t_kp T))) (lN (t_pa T)) (lN (t_pb T)) (t_sht T) a0 a1 a2 a3 a4 a5 a6 a7 a8 a9 mb0 mb1 oc mb2 mb3 mb4 mb5 ++ (iw_ws a7 cI 256 bf ++ (iw_ws a8 cI 64 sc ++ (iw_ws a9 cI 8 st ++ (iw_ws mb0 cI 8 kS ++ (iw_ws mb1 cI 64 kR ++ (jw_ws a2 cJ 4 tf ++ (jw_ws a0 cJ 1232 nf ++ (jw_ws a1 cJ 616 cf ++ (iw_ws a4 cI 4 kf ++ (jw_ws mb2 cJ 4 ky ++ jw_ws a3 cJ 16 lf)))))))))))) (pl := bpool rb lb cJ R Lk) hP hD [26, 27, 28, 29, 30, 31, 32, 33, 34, 35, 36, 37] [0, 1, 2, 3, 4, 5, 6, 7, 8, 9, 10, 11, 12, 13, 14, 15, 16, 17, 18, 19, 20, 21, 22, 23, 24, 25, 38, 39, 40, 41, 42] rfl rfl (by decide) (by decide) hk1 hFc hP1 hD1
    have hP := hP.part (cx := (jw_ws out cJ 1 of ++ (bb_ws b0 bd0 pr0 t0 au0 da (.ref g0) ++ (rw_ws da cJ (r8 u9.1.1 u9.1.2.1 u9.1.2.2.1 u9.1.2.2.2.1 u9.1.2.2.2.2.1 u9.1.2.2.2.2.2.1 u9.1.2.2.2.2.2.2.1 u9.1.2.2.2.2.2.2.2) ++ (bd_ws bd0 h0 ro lo n cR (rrf rb) (rrf lb) ++ (pr_ws pr0 h0 cm cJ u9.2.1 ++ (hu_ws h0 aw ax ay cJ cI u9.2.2 ++ (tt_ws t0 ka aa ba sa (.ref g0) cJ T ++ (au_ws au0 bd0 pr0 tu0 sd ++ (tt_ws tu0 uka uaa uba usa gu cJ T0 ++ (gp_ws g0 mF mE P f1 k1 Q f2 k2 G ++ (mo_ws m0 1 (nI (t_tn T)) (nI n) (nI (t_bc T)) (lN P) (lN Q) (lN G) (lN (ckey (t_tn T) (t_kc T) (t_kp T))) (lN (t_pa T)) (lN (t_pb T)) (t_sht T) a0 a1 a2 a3 a4 a5 a6 a7 a8 a9 mb0 mb1 oc mb2 mb3 mb4 mb5 ++ (iw_ws a7 cI 256 bf ++ (iw_ws a8 cI 64 sc ++ (iw_ws a9 cI 8 st ++ (iw_ws mb0 cI 8 kS ++ (iw_ws mb1 cI 64 kR ++ (jw_ws a2 cJ 4 tf ++ (jw_ws a0 cJ 1232 nf ++ (jw_ws a1 cJ 616 cf ++ (iw_ws a4 cI 4 kf ++ (jw_ws mb2 cJ 4 ky ++ (jw_ws a3 cJ 16 lf ++ (iw_ws a5 cI 4 sf ++ (iw_ws a6 cI 64 vf ++ (jw_ws mb3 cJ 128 md ++ (jw_ws mb4 cJ 4 sh ++ iw_ws mb5 cI 64 ct))))))))))))))))))))))))))) [0, 1, 2, 3, 4, 5, 6, 7, 8, 9, 10, 11, 12, 13, 14, 15, 16, 17, 18, 19, 20, 21, 22, 23, 24, 25, 31, 32, 33, 34, 35, 36, 37, 38, 39, 40, 41, 42, 26, 27, 28, 29, 30] rfl
    have hD := hD.part (cx := (jw_ws out cJ 1 of ++ (bb_ws b0 bd0 pr0 t0 au0 da (.ref g0) ++ (rw_ws da cJ (r8 u9.1.1 u9.1.2.1 u9.1.2.2.1 u9.1.2.2.2.1 u9.1.2.2.2.2.1 u9.1.2.2.2.2.2.1 u9.1.2.2.2.2.2.2.1 u9.1.2.2.2.2.2.2.2) ++ (bd_ws bd0 h0 ro lo n cR (rrf rb) (rrf lb) ++ (pr_ws pr0 h0 cm cJ u9.2.1 ++ (hu_ws h0 aw ax ay cJ cI u9.2.2 ++ (tt_ws t0 ka aa ba sa (.ref g0) cJ T ++ (au_ws au0 bd0 pr0 tu0 sd ++ (tt_ws tu0 uka uaa uba usa gu cJ T0 ++ (gp_ws g0 mF mE P f1 k1 Q f2 k2 G ++ (mo_ws m0 1 (nI (t_tn T)) (nI n) (nI (t_bc T)) (lN P) (lN Q) (lN G) (lN (ckey (t_tn T) (t_kc T) (t_kp T))) (lN (t_pa T)) (lN (t_pb T)) (t_sht T) a0 a1 a2 a3 a4 a5 a6 a7 a8 a9 mb0 mb1 oc mb2 mb3 mb4 mb5 ++ (iw_ws a7 cI 256 bf ++ (iw_ws a8 cI 64 sc ++ (iw_ws a9 cI 8 st ++ (iw_ws mb0 cI 8 kS ++ (iw_ws mb1 cI 64 kR ++ (jw_ws a2 cJ 4 tf ++ (jw_ws a0 cJ 1232 nf ++ (jw_ws a1 cJ 616 cf ++ (iw_ws a4 cI 4 kf ++ (jw_ws mb2 cJ 4 ky ++ (jw_ws a3 cJ 16 lf ++ (iw_ws a5 cI 4 sf ++ (iw_ws a6 cI 64 vf ++ (jw_ws mb3 cJ 128 md ++ (jw_ws mb4 cJ 4 sh ++ iw_ws mb5 cI 64 ct))))))))))))))))))))))))))) [0, 1, 2, 3, 4, 5, 6, 7, 8, 9, 10, 11, 12, 13, 14, 15, 16, 17, 18, 19, 20, 21, 22, 23, 24, 25, 31, 32, 33, 34, 35, 36, 37, 38, 39, 40, 41, 42, 26, 27, 28, 29, 30] (by decide) rfl
    generalize H1 = H at hP hS ⊢
    clear hPc hDc hFc hP1 hD1 hK1 ht hk1 hz1
    refine lv_istore (lv' := [(6, .int r_2), (5, .int 1), (4, .int (nI i)), (3, .ref out), (2, .ref m0), (1, .ref b0), (0, .ref b)]) hx hb d_law_558 hl (by decide) rfl (fun ls hl => ?_)
    refine lv_aload_n hx hb d_law_560 rfl (lv_at hl 4 rfl) ?_
    have hPc := hP.sub (ws' := (mo_ws m0 1 (nI (t_tn T)) (nI n) (nI (t_bc T)) (lN P) (lN Q) (lN G) (lN (ckey (t_tn T) (t_kc T) (t_kp T))) (lN (t_pa T)) (lN (t_pb T)) (t_sht T) a0 a1 a2 a3 a4 a5 a6 a7 a8 a9 mb0 mb1 oc mb2 mb3 mb4 mb5)) [26] rfl
    have hKc := hK.sub (tys' := [(cJ, .long), (cI, .int)]) [0, 1] rfl
    refine va_calli (va_runV (As := []) (rest := []) ⟨hx, hb, hml, hown, hts⟩ (c_Bm_thrown l H dC dI cJ cI m0 1 (nI (t_tn T)) (nI n) (nI (t_bc T)) (lN P) (lN Q) (lN G) (lN (ckey (t_tn T) (t_kc T) (t_kp T))) (lN (t_pa T)) (lN (t_pb T)) (t_sht T) a0 a1 a2 a3 a4 a5 a6 a7 a8 a9 mb0 mb1 oc mb2 mb3 mb4 mb5 hPc) (cwV 0 hts (gw_V gk_1004 gk_1005 gk_1006 gk_7 gk_1007) rfl rfl rfl (by decide +kernel) ⟨(Nat.le_of_ble_eq_true rfl), (Nat.le_of_ble_eq_true rfl)⟩) ⟨fun a U g mk q => ⟨q.1, q.2.1, va_K.moved (u := U) (U := U.calling g mk a) (Vm.Alike.refl U.vm) q.2.2⟩, va_recv hK hP (ci := 8) (q0 := 26) rfl rfl, fun U hU hW => ⟨rfl, hU, va_K.moved hW.alike hKc⟩⟩ rfl rfl hl.1 rfl (lv_room (Nat.le_of_ble_eq_true rfl)) d_law_561 ⟨show cells + 8 + 0 + 0 ≤ 601024 by omega, show slots + 48 + 0 + 0 ≤ 7293034 by omega⟩) hS (fun q _ h => h.elim) (fun q h => h.elim) (fun r_3 w9 t9 H1 locs ht hvm hw9 hB hz1 hk1 hS => ?_)
    obtain rfl : H = H1 := hB.symm.trans ht
    have hw9 : r_3 = 1 := hw9
    subst hw9
    clear hPc hz1 hk1 hB
    refine lv_iload hx hb d_law_564 (lv_at hl 1 rfl) ?_
    refine lv_icmp_eq (tgt := 571) hx hb d_law_566 (by decide) (fun c_4 => ?_) (fun c_4 => ?_)
    · -- taken
      refine lv_iload hx hb d_law_571 (lv_at hl 1 rfl) ?_
      refine lv_if_ne (tgt := 588) hx hb d_law_573 (by decide) (fun c_5 => ?_) (fun c_5 => ?_)
      · -- taken
        refine lv_goto (tgt := 1965) hx hb d_law_588 (by decide) ?_
        refine W.widen (k := cells + 20) (n := slots + 200) (by omega) (by omega) ?_
        have hI9 : LI dC dI cJ cI cR A out b0 m0 H := LG.mk hP hD hR
        exact cont _ _ _ hS hI9 (lv_sub hl [2, 3, 4, 5, 6] rfl)
      · -- not taken
        exact absurd c_5 (by decide)
    · -- not taken
      exact absurd c_4 (by decide)
  by_cases hC2 : kC2m Q (t_tn T) x1 x2 x3
  · -- it holds
    refine lv_aload_n hx hb d_law_447 rfl (lv_at hl 3 rfl) ?_
    refine lv_aload_n hx hb d_law_448 rfl (lv_at hl 4 rfl) ?_
    refine lv_iload hx hb d_law_449 (lv_at hl 0 rfl) ?_
    refine lv_iconst (v := 1) hx hb d_law_451 (by decide) ?_
    refine lv_iadd hx hb d_law_452 ?_
    rw [show ((nI i) + 1 : Int32) = nI (i + 1) from nI_add _ 1]
    refine va_sld hx hb hX hbl hbA hS (vp_in_nI (by omega) (by omega)) d_law_453 ?_
    rw [show (xs (nI (i + 1)).toNatClampNeg : Int32) = xs (i + 1) from by rw [nI_clamp (by omega)]]
    rw [show (xs (i + 1) : Int32) = x1 from hx1.symm]
    refine lv_aload_n hx hb d_law_454 rfl (lv_at hl 4 rfl) ?_
    refine lv_iload hx hb d_law_455 (lv_at hl 0 rfl) ?_
    refine lv_iconst (v := 2) hx hb d_law_457 (by decide) ?_
    refine lv_iadd hx hb d_law_458 ?_
    rw [show ((nI i) + 2 : Int32) = nI (i + 2) from nI_add _ 2]
    refine va_sld hx hb hX hbl hbA hS (vp_in_nI (by omega) (by omega)) d_law_459 ?_
    rw [show (xs (nI (i + 2)).toNatClampNeg : Int32) = xs (i + 2) from by rw [nI_clamp (by omega)]]
    refine lv_i2l (v := (xs (i + 2) : Int32).toInt64) hx hb d_law_460 rfl ?_
    refine lv_bipush (v := 32) hx hb d_law_461 (by decide) ?_
    refine lv_lshl (v := ((xs (i + 2) : Int32).toInt64 : Int64) <<< ((32 : Int32).toInt64 &&& 63)) hx hb d_law_463 rfl ?_
    refine lv_aload_n hx hb d_law_464 rfl (lv_at hl 4 rfl) ?_
    refine lv_iload hx hb d_law_465 (lv_at hl 0 rfl) ?_
    refine lv_iconst (v := 3) hx hb d_law_467 (by decide) ?_
    refine lv_iadd hx hb d_law_468 ?_
    rw [show ((nI i) + 3 : Int32) = nI (i + 3) from nI_add _ 3]
    refine va_sld hx hb hX hbl hbA hS (vp_in_nI (by omega) (by omega)) d_law_469 ?_
    rw [show (xs (nI (i + 3)).toNatClampNeg : Int32) = xs (i + 3) from by rw [nI_clamp (by omega)]]
    refine lv_i2l (v := (xs (i + 3) : Int32).toInt64) hx hb d_law_470 rfl ?_
    refine lv_ldc2 (v := 4294967295) hx hb hown (hts _ (List.mem_cons_of_mem _ gk_1202)) d_law_471 ?_
    refine lv_land hx hb d_law_474 ?_
    refine lv_lor hx hb d_law_475 ?_
    rw [show ((((xs (i + 2) : Int32).toInt64 : Int64) <<< ((32 : Int32).toInt64 &&& 63)) ||| (((xs (i + 3) : Int32).toInt64) &&& 4294967295) : Int64) = x2 from hx2.symm]
    refine lv_aload_n hx hb d_law_476 rfl (lv_at hl 4 rfl) ?_
    refine lv_iload hx hb d_law_477 (lv_at hl 0 rfl) ?_
    refine lv_iconst (v := 4) hx hb d_law_479 (by decide) ?_
    refine lv_iadd hx hb d_law_480 ?_
    rw [show ((nI i) + 4 : Int32) = nI (i + 4) from nI_add _ 4]
    refine va_sld hx hb hX hbl hbA hS (vp_in_nI (by omega) (by omega)) d_law_481 ?_
    rw [show (xs (nI (i + 4)).toNatClampNeg : Int32) = xs (i + 4) from by rw [nI_clamp (by omega)]]
    refine lv_i2l (v := (xs (i + 4) : Int32).toInt64) hx hb d_law_482 rfl ?_
    refine lv_bipush (v := 32) hx hb d_law_483 (by decide) ?_
    refine lv_lshl (v := ((xs (i + 4) : Int32).toInt64 : Int64) <<< ((32 : Int32).toInt64 &&& 63)) hx hb d_law_485 rfl ?_
    refine lv_aload_n hx hb d_law_486 rfl (lv_at hl 4 rfl) ?_
    refine lv_iload hx hb d_law_487 (lv_at hl 0 rfl) ?_
    refine lv_iconst (v := 5) hx hb d_law_489 (by decide) ?_
    refine lv_iadd hx hb d_law_490 ?_
    rw [show ((nI i) + 5 : Int32) = nI (i + 5) from nI_add _ 5]
    refine va_sld hx hb hX hbl hbA hS (vp_in_nI (by omega) (by omega)) d_law_491 ?_
    rw [show (xs (nI (i + 5)).toNatClampNeg : Int32) = xs (i + 5) from by rw [nI_clamp (by omega)]]
    refine lv_i2l (v := (xs (i + 5) : Int32).toInt64) hx hb d_law_492 rfl ?_
    refine lv_ldc2 (v := 4294967295) hx hb hown (hts _ (List.mem_cons_of_mem _ gk_1202)) d_law_493 ?_
    refine lv_land hx hb d_law_496 ?_
    refine lv_lor hx hb d_law_497 ?_
    rw [show ((((xs (i + 4) : Int32).toInt64 : Int64) <<< ((32 : Int32).toInt64 &&& 63)) ||| (((xs (i + 5) : Int32).toInt64) &&& 4294967295) : Int64) = x3 from hx3.symm]
    refine lv_aload_n hx hb d_law_498 rfl (lv_at hl 1 rfl) ?_
    have hPc := hP.part (cx := (jw_ws out cJ 1 of ++ (bb_ws b0 bd0 pr0 t0 au0 da (.ref g0) ++ (rw_ws da cJ (r8 d0 d1 d2 d3 d4 d5 d6 d7) ++ (bd_ws bd0 h0 ro lo n cR (rrf rb) (rrf lb) ++ (pr_ws pr0 h0 cm cJ ccf ++ (ha_ws h0 aw ax ay cJ cI w csc cst cL ++ (tt_ws t0 ka aa ba sa (.ref g0) cJ T ++ gp_ws g0 mF mE P f1 k1 Q f2 k2 G)))))))) [0, 1, 2, 3, 4, 5, 6, 7, 8, 9, 10, 11, 12, 13, 14, 15, 16, 23, 24, 25] rfl
    have hDc := hD.part (cx := (jw_ws out cJ 1 of ++ (bb_ws b0 bd0 pr0 t0 au0 da (.ref g0) ++ (rw_ws da cJ (r8 d0 d1 d2 d3 d4 d5 d6 d7) ++ (bd_ws bd0 h0 ro lo n cR (rrf rb) (rrf lb) ++ (pr_ws pr0 h0 cm cJ ccf ++ (ha_ws h0 aw ax ay cJ cI w csc cst cL ++ (tt_ws t0 ka aa ba sa (.ref g0) cJ T ++ gp_ws g0 mF mE P f1 k1 Q f2 k2 G)))))))) [0, 1, 2, 3, 4, 5, 6, 7, 8, 9, 10, 11, 12, 13, 14, 15, 16, 23, 24, 25] (by decide) rfl
    have hKc := hK.sub (tys' := [(cJ, .long), (cI, .int), (cR, .array .long)]) [0, 1, 2] rfl
    have hFc := va_freeP (cx := (jw_ws out cJ 1 of ++ (bb_ws b0 bd0 pr0 t0 au0 da (.ref g0) ++ (rw_ws da cJ (r8 d0 d1 d2 d3 d4 d5 d6 d7) ++ (bd_ws bd0 h0 ro lo n cR (rrf rb) (rrf lb) ++ (pr_ws pr0 h0 cm cJ ccf ++ (ha_ws h0 aw ax ay cJ cI w csc cst cL ++ (tt_ws t0 ka aa ba sa (.ref g0) cJ T ++ gp_ws g0 mF mE P f1 k1 Q f2 k2 G)))))))) hD hS hA [0, 1, 2, 3, 4, 5, 6, 7, 8, 9, 10, 11, 12, 13, 14, 15, 16, 23, 24, 25] rfl
    have hZc0 : ha_Z rA sA (va_A ((jw_ws out cJ 1 of ++ (bb_ws b0 bd0 pr0 t0 au0 da (.ref g0) ++ (rw_ws da cJ (r8 d0 d1 d2 d3 d4 d5 d6 d7) ++ (bd_ws bd0 h0 ro lo n cR (rrf rb) (rrf lb) ++ (pr_ws pr0 h0 cm cJ ccf ++ (ha_ws h0 aw ax ay cJ cI w csc cst cL ++ (tt_ws t0 ka aa ba sa (.ref g0) cJ T ++ gp_ws g0 mF mE P f1 k1 Q f2 k2 G))))))) ++ bpool rb lb cJ R Lk) H.size) s H := (hZha.kept hS.2.1).narrow hFc
    have hZc1 : xz (va_A ((jw_ws out cJ 1 of ++ (bb_ws b0 bd0 pr0 t0 au0 da (.ref g0) ++ (rw_ws da cJ (r8 d0 d1 d2 d3 d4 d5 d6 d7) ++ (bd_ws bd0 h0 ro lo n cR (rrf rb) (rrf lb) ++ (pr_ws pr0 h0 cm cJ ccf ++ (ha_ws h0 aw ax ay cJ cI w csc cst cL ++ (tt_ws t0 ka aa ba sa (.ref g0) cJ T ++ gp_ws g0 mF mE P f1 k1 Q f2 k2 G))))))) ++ bpool rb lb cJ R Lk) H.size) s H := (hZx.kept hS.2.1).narrow hFc
    have hZc2 : nc_Z s := hZn
    refine vx_calli (vx_runSX (hh := h_Lw_makeKey) (As := [.ref b0, .int x1, .long x2, .long x3, .ref out]) (rest := []) ⟨hx, hb, hml, hown, hts⟩ (c_Lw_makeKey_2 l hnt dC dI cJ cI cR H.size b0 bd0 pr0 t0 au0 da h0 ro lo n rb lb cm ccf aw ax ay w csc cst cL ka aa ba sa T g0 mF mE P f1 k1 Q f2 k2 G rA sA R Lk d0 d1 d2 d3 d4 d5 d6 d7 x1 x2 x3 out of hok htok hN0 htn hkc hn hnO hC1 hC2) (vx_cwSW 5 hts (gw_Sv gk_599 gk_600 gk_0 gk_601) rfl rfl rfl (by decide +kernel) ⟨(Nat.le_of_ble_eq_true rfl), (Nat.le_of_ble_eq_true rfl)⟩) ⟨fun a U g mk q => by obtain ⟨q0, q1, qP, qK, qD, qZ0, qZ1, qZ2⟩ := q; exact ⟨q0, q1, qP, va_K.moved (u := U) (U := U.calling g mk a) (Vm.Alike.refl U.vm) qK, qD, ha_Z.moved (u := U) (U := U.calling g mk a) (Vm.Alike.refl U.vm) qZ0, xz.same (u := U) (U := U.calling g mk a) rfl qZ1, nc_Z.moved (u := U) (U := U.calling g mk a) (Vm.Alike.refl U.vm) qZ2⟩, fun U hU hW => ⟨rfl, by rw [hU], by rw [hU]; exact hPc, va_K.moved hW.alike hKc, hDc.weaken (fun _ _ _ _ => trivial), by rw [hU]; exact ha_Z.moved hW.alike hZc0, by rw [hU]; exact xz.warm hW hZc1, nc_Z.moved hW.alike hZc2⟩⟩ rfl rfl hl.1 rfl (lv_room (Nat.le_of_ble_eq_true rfl)) d_law_499 ⟨show cells + 8 ≤ 601024 by omega, show slots + 48 ≤ 7293034 by omega⟩) hS (fun q _ h => hFc q h) hFc (fun q _ h => hFc q h) (fun E9 ce9 q9 u8 t9 H1 locs ht hvm hpx hbx hz1 hk1 hS hce hcv hcl => hpx.elim) (fun r_6 u9 t9 H1 locs ht hvm hw hB hz1 hk1 hS => ?_)
    obtain ⟨hP1, hK1, hD1⟩ := hB
    rw [ht] at hP1
    obtain ⟨hP, hD⟩ := va_joinP (X := (jw_ws out cJ 1 of ++ (bb_ws b0 bd0 pr0 t0 au0 da (.ref g0) ++ (rw_ws da cJ (r8 d0 d1 d2 d3 d4 d5 d6 d7) ++ (bd_ws bd0 h0 ro lo n cR (rrf rb) (rrf lb) ++ (pr_ws pr0 h0 cm cJ ccf ++ (ha_ws h0 aw ax ay cJ cI w csc cst cL ++ (tt_ws t0 ka aa ba sa (.ref g0) cJ T ++ (au_ws au0 bd0 pr0 tu0 sd ++ (tt_ws tu0 uka uaa uba usa gu cJ T0 ++ (gp_ws g0 mF mE P f1 k1 Q f2 k2 G ++ (mo_ws m0 e0 (nI (t_tn T)) (nI n) (nI (t_bc T)) (lN P) (lN Q) (lN G) (lN (ckey (t_tn T) (t_kc T) (t_kp T))) (lN (t_pa T)) (lN (t_pb T)) (t_sht T) a0 a1 a2 a3 a4 a5 a6 a7 a8 a9 mb0 mb1 oc mb2 mb3 mb4 mb5 ++ (iw_ws a7 cI 256 bf ++ (iw_ws a8 cI 64 sc ++ (iw_ws a9 cI 8 st ++ (iw_ws mb0 cI 8 kS ++ (iw_ws mb1 cI 64 kR ++ (jw_ws a2 cJ 4 tf ++ (jw_ws a0 cJ 1232 nf ++ (jw_ws a1 cJ 616 cf ++ (iw_ws a4 cI 4 kf ++ (jw_ws mb2 cJ 4 ky ++ (jw_ws a3 cJ 16 lf ++ (iw_ws a5 cI 4 sf ++ (iw_ws a6 cI 64 vf ++ (jw_ws mb3 cJ 128 md ++ (jw_ws mb4 cJ 4 sh ++ iw_ws mb5 cI 64 ct))))))))))))))))))))))))))) (cx := (jw_ws out cJ 1 of ++ (bb_ws b0 bd0 pr0 t0 au0 da (.ref g0) ++ (rw_ws da cJ (r8 d0 d1 d2 d3 d4 d5 d6 d7) ++ (bd_ws bd0 h0 ro lo n cR (rrf rb) (rrf lb) ++ (pr_ws pr0 h0 cm cJ ccf ++ (ha_ws h0 aw ax ay cJ cI w csc cst cL ++ (tt_ws t0 ka aa ba sa (.ref g0) cJ T ++ gp_ws g0 mF mE P f1 k1 Q f2 k2 G)))))))) (wr := (au_ws au0 bd0 pr0 tu0 sd ++ (tt_ws tu0 uka uaa uba usa gu cJ T0 ++ (mo_ws m0 e0 (nI (t_tn T)) (nI n) (nI (t_bc T)) (lN P) (lN Q) (lN G) (lN (ckey (t_tn T) (t_kc T) (t_kp T))) (lN (t_pa T)) (lN (t_pb T)) (t_sht T) a0 a1 a2 a3 a4 a5 a6 a7 a8 a9 mb0 mb1 oc mb2 mb3 mb4 mb5 ++ (iw_ws a7 cI 256 bf ++ (iw_ws a8 cI 64 sc ++ (iw_ws a9 cI 8 st ++ (iw_ws mb0 cI 8 kS ++ (iw_ws mb1 cI 64 kR ++ (jw_ws a2 cJ 4 tf ++ (jw_ws a0 cJ 1232 nf ++ (jw_ws a1 cJ 616 cf ++ (iw_ws a4 cI 4 kf ++ (jw_ws mb2 cJ 4 ky ++ (jw_ws a3 cJ 16 lf ++ (iw_ws a5 cI 4 sf ++ (iw_ws a6 cI 64 vf ++ (jw_ws mb3 cJ 128 md ++ (jw_ws mb4 cJ 4 sh ++ iw_ws mb5 cI 64 ct))))))))))))))))))) (rx := (jw_ws out cJ 1 of ++ (bb_ws b0 bd0 pr0 t0 au0 da (.ref g0) ++ (rw_ws da cJ (r8 u9.1.1 u9.1.2.1 u9.1.2.2.1 u9.1.2.2.2.1 u9.1.2.2.2.2.1 u9.1.2.2.2.2.2.1 u9.1.2.2.2.2.2.2.1 u9.1.2.2.2.2.2.2.2) ++ (bd_ws bd0 h0 ro lo n cR (rrf rb) (rrf lb) ++ (pr_ws pr0 h0 cm cJ u9.2.1 ++ (hu_ws h0 aw ax ay cJ cI u9.2.2 ++ (tt_ws t0 ka aa ba sa (.ref g0) cJ T ++ gp_ws g0 mF mE P f1 k1 Q f2 k2 G)))))))) (pl := bpool rb lb cJ R Lk) (pl1 := bpool rb lb cJ R Lk) hP hD [0, 1, 2, 3, 4, 5, 6, 7, 8, 9, 10, 11, 12, 13, 14, 15, 16, 23, 24, 25] [17, 18, 19, 20, 21, 22, 26, 27, 28, 29, 30, 31, 32, 33, 34, 35, 36, 37, 38, 39, 40, 41, 42] rfl rfl (by decide) (by decide) hk1 hFc hP1 hD1
    have hP := hP.part (cx := (jw_ws out cJ 1 of ++ (bb_ws b0 bd0 pr0 t0 au0 da (.ref g0) ++ (rw_ws da cJ (r8 u9.1.1 u9.1.2.1 u9.1.2.2.1 u9.1.2.2.2.1 u9.1.2.2.2.2.1 u9.1.2.2.2.2.2.1 u9.1.2.2.2.2.2.2.1 u9.1.2.2.2.2.2.2.2) ++ (bd_ws bd0 h0 ro lo n cR (rrf rb) (rrf lb) ++ (pr_ws pr0 h0 cm cJ u9.2.1 ++ (hu_ws h0 aw ax ay cJ cI u9.2.2 ++ (tt_ws t0 ka aa ba sa (.ref g0) cJ T ++ (au_ws au0 bd0 pr0 tu0 sd ++ (tt_ws tu0 uka uaa uba usa gu cJ T0 ++ (gp_ws g0 mF mE P f1 k1 Q f2 k2 G ++ (mo_ws m0 e0 (nI (t_tn T)) (nI n) (nI (t_bc T)) (lN P) (lN Q) (lN G) (lN (ckey (t_tn T) (t_kc T) (t_kp T))) (lN (t_pa T)) (lN (t_pb T)) (t_sht T) a0 a1 a2 a3 a4 a5 a6 a7 a8 a9 mb0 mb1 oc mb2 mb3 mb4 mb5 ++ (iw_ws a7 cI 256 bf ++ (iw_ws a8 cI 64 sc ++ (iw_ws a9 cI 8 st ++ (iw_ws mb0 cI 8 kS ++ (iw_ws mb1 cI 64 kR ++ (jw_ws a2 cJ 4 tf ++ (jw_ws a0 cJ 1232 nf ++ (jw_ws a1 cJ 616 cf ++ (iw_ws a4 cI 4 kf ++ (jw_ws mb2 cJ 4 ky ++ (jw_ws a3 cJ 16 lf ++ (iw_ws a5 cI 4 sf ++ (iw_ws a6 cI 64 vf ++ (jw_ws mb3 cJ 128 md ++ (jw_ws mb4 cJ 4 sh ++ iw_ws mb5 cI 64 ct))))))))))))))))))))))))))) [23, 24, 25, 26, 27, 28, 29, 30, 31, 32, 33, 34, 35, 36, 37, 38, 39, 0, 1, 2, 3, 4, 5, 40, 41, 42, 6, 7, 8, 9, 10, 11, 12, 13, 14, 15, 16, 17, 18, 19, 20, 21, 22] rfl
    have hD := hD.part (cx := (jw_ws out cJ 1 of ++ (bb_ws b0 bd0 pr0 t0 au0 da (.ref g0) ++ (rw_ws da cJ (r8 u9.1.1 u9.1.2.1 u9.1.2.2.1 u9.1.2.2.2.1 u9.1.2.2.2.2.1 u9.1.2.2.2.2.2.1 u9.1.2.2.2.2.2.2.1 u9.1.2.2.2.2.2.2.2) ++ (bd_ws bd0 h0 ro lo n cR (rrf rb) (rrf lb) ++ (pr_ws pr0 h0 cm cJ u9.2.1 ++ (hu_ws h0 aw ax ay cJ cI u9.2.2 ++ (tt_ws t0 ka aa ba sa (.ref g0) cJ T ++ (au_ws au0 bd0 pr0 tu0 sd ++ (tt_ws tu0 uka uaa uba usa gu cJ T0 ++ (gp_ws g0 mF mE P f1 k1 Q f2 k2 G ++ (mo_ws m0 e0 (nI (t_tn T)) (nI n) (nI (t_bc T)) (lN P) (lN Q) (lN G) (lN (ckey (t_tn T) (t_kc T) (t_kp T))) (lN (t_pa T)) (lN (t_pb T)) (t_sht T) a0 a1 a2 a3 a4 a5 a6 a7 a8 a9 mb0 mb1 oc mb2 mb3 mb4 mb5 ++ (iw_ws a7 cI 256 bf ++ (iw_ws a8 cI 64 sc ++ (iw_ws a9 cI 8 st ++ (iw_ws mb0 cI 8 kS ++ (iw_ws mb1 cI 64 kR ++ (jw_ws a2 cJ 4 tf ++ (jw_ws a0 cJ 1232 nf ++ (jw_ws a1 cJ 616 cf ++ (iw_ws a4 cI 4 kf ++ (jw_ws mb2 cJ 4 ky ++ (jw_ws a3 cJ 16 lf ++ (iw_ws a5 cI 4 sf ++ (iw_ws a6 cI 64 vf ++ (jw_ws mb3 cJ 128 md ++ (jw_ws mb4 cJ 4 sh ++ iw_ws mb5 cI 64 ct))))))))))))))))))))))))))) [23, 24, 25, 26, 27, 28, 29, 30, 31, 32, 33, 34, 35, 36, 37, 38, 39, 0, 1, 2, 3, 4, 5, 40, 41, 42, 6, 7, 8, 9, 10, 11, 12, 13, 14, 15, 16, 17, 18, 19, 20, 21, 22] (by decide) rfl
    generalize H1 = H at hP hS ⊢
    clear hPc hDc hFc hP1 hD1 hK1 ht hk1 hz1
    have hr9 : r_6 = 2 := hw
    subst hr9
    refine lv_istore (lv' := [(5, .int 2), (4, .int (nI i)), (3, .ref out), (2, .ref m0), (1, .ref b0), (0, .ref b)]) hx hb d_law_502 hl (by decide) rfl (fun ls hl => ?_)
    refine lv_aload_n hx hb d_law_504 rfl (lv_at hl 3 rfl) ?_
    refine lv_aload_n hx hb d_law_505 rfl (lv_at hl 5 rfl) ?_
    refine lv_iload hx hb d_law_506 (lv_at hl 1 rfl) ?_
    refine lv_iconst (v := 1) hx hb d_law_508 (by decide) ?_
    refine lv_iadd hx hb d_law_509 ?_
    rw [show ((nI i) + 1 : Int32) = nI (i + 1) from nI_add _ 1]
    refine va_sld hx hb hX hbl hbA hS (vp_in_nI (by omega) (by omega)) d_law_510 ?_
    rw [show (xs (nI (i + 1)).toNatClampNeg : Int32) = xs (i + 1) from by rw [nI_clamp (by omega)]]
    rw [show (xs (i + 1) : Int32) = x1 from hx1.symm]
    refine lv_aload_n hx hb d_law_511 rfl (lv_at hl 5 rfl) ?_
    refine lv_iload hx hb d_law_512 (lv_at hl 1 rfl) ?_
    refine lv_iconst (v := 2) hx hb d_law_514 (by decide) ?_
    refine lv_iadd hx hb d_law_515 ?_
    rw [show ((nI i) + 2 : Int32) = nI (i + 2) from nI_add _ 2]
    refine va_sld hx hb hX hbl hbA hS (vp_in_nI (by omega) (by omega)) d_law_516 ?_
    rw [show (xs (nI (i + 2)).toNatClampNeg : Int32) = xs (i + 2) from by rw [nI_clamp (by omega)]]
    refine lv_i2l (v := (xs (i + 2) : Int32).toInt64) hx hb d_law_517 rfl ?_
    refine lv_bipush (v := 32) hx hb d_law_518 (by decide) ?_
    refine lv_lshl (v := ((xs (i + 2) : Int32).toInt64 : Int64) <<< ((32 : Int32).toInt64 &&& 63)) hx hb d_law_520 rfl ?_
    refine lv_aload_n hx hb d_law_521 rfl (lv_at hl 5 rfl) ?_
    refine lv_iload hx hb d_law_522 (lv_at hl 1 rfl) ?_
    refine lv_iconst (v := 3) hx hb d_law_524 (by decide) ?_
    refine lv_iadd hx hb d_law_525 ?_
    rw [show ((nI i) + 3 : Int32) = nI (i + 3) from nI_add _ 3]
    refine va_sld hx hb hX hbl hbA hS (vp_in_nI (by omega) (by omega)) d_law_526 ?_
    rw [show (xs (nI (i + 3)).toNatClampNeg : Int32) = xs (i + 3) from by rw [nI_clamp (by omega)]]
    refine lv_i2l (v := (xs (i + 3) : Int32).toInt64) hx hb d_law_527 rfl ?_
    refine lv_ldc2 (v := 4294967295) hx hb hown (hts _ (List.mem_cons_of_mem _ gk_1202)) d_law_528 ?_
    refine lv_land hx hb d_law_531 ?_
    refine lv_lor hx hb d_law_532 ?_
    rw [show ((((xs (i + 2) : Int32).toInt64 : Int64) <<< ((32 : Int32).toInt64 &&& 63)) ||| (((xs (i + 3) : Int32).toInt64) &&& 4294967295) : Int64) = x2 from hx2.symm]
    refine lv_aload_n hx hb d_law_533 rfl (lv_at hl 5 rfl) ?_
    refine lv_iload hx hb d_law_534 (lv_at hl 1 rfl) ?_
    refine lv_iconst (v := 4) hx hb d_law_536 (by decide) ?_
    refine lv_iadd hx hb d_law_537 ?_
    rw [show ((nI i) + 4 : Int32) = nI (i + 4) from nI_add _ 4]
    refine va_sld hx hb hX hbl hbA hS (vp_in_nI (by omega) (by omega)) d_law_538 ?_
    rw [show (xs (nI (i + 4)).toNatClampNeg : Int32) = xs (i + 4) from by rw [nI_clamp (by omega)]]
    refine lv_i2l (v := (xs (i + 4) : Int32).toInt64) hx hb d_law_539 rfl ?_
    refine lv_bipush (v := 32) hx hb d_law_540 (by decide) ?_
    refine lv_lshl (v := ((xs (i + 4) : Int32).toInt64 : Int64) <<< ((32 : Int32).toInt64 &&& 63)) hx hb d_law_542 rfl ?_
    refine lv_aload_n hx hb d_law_543 rfl (lv_at hl 5 rfl) ?_
    refine lv_iload hx hb d_law_544 (lv_at hl 1 rfl) ?_
    refine lv_iconst (v := 5) hx hb d_law_546 (by decide) ?_
    refine lv_iadd hx hb d_law_547 ?_
    rw [show ((nI i) + 5 : Int32) = nI (i + 5) from nI_add _ 5]
    refine va_sld hx hb hX hbl hbA hS (vp_in_nI (by omega) (by omega)) d_law_548 ?_
    rw [show (xs (nI (i + 5)).toNatClampNeg : Int32) = xs (i + 5) from by rw [nI_clamp (by omega)]]
    refine lv_i2l (v := (xs (i + 5) : Int32).toInt64) hx hb d_law_549 rfl ?_
    refine lv_ldc2 (v := 4294967295) hx hb hown (hts _ (List.mem_cons_of_mem _ gk_1202)) d_law_550 ?_
    refine lv_land hx hb d_law_553 ?_
    refine lv_lor hx hb d_law_554 ?_
    rw [show ((((xs (i + 4) : Int32).toInt64 : Int64) <<< ((32 : Int32).toInt64 &&& 63)) ||| (((xs (i + 5) : Int32).toInt64) &&& 4294967295) : Int64) = x3 from hx3.symm]
    have hPc := hP.sub (ws' := (mo_ws m0 e0 (nI (t_tn T)) (nI n) (nI (t_bc T)) (lN P) (lN Q) (lN G) (lN (ckey (t_tn T) (t_kc T) (t_kp T))) (lN (t_pa T)) (lN (t_pb T)) (t_sht T) a0 a1 a2 a3 a4 a5 a6 a7 a8 a9 mb0 mb1 oc mb2 mb3 mb4 mb5 ++ (iw_ws a7 cI 256 bf ++ (iw_ws a8 cI 64 sc ++ (iw_ws a9 cI 8 st ++ (iw_ws mb0 cI 8 kS ++ (iw_ws mb1 cI 64 kR ++ (jw_ws a2 cJ 4 tf ++ (jw_ws a0 cJ 1232 nf ++ (jw_ws a1 cJ 616 cf ++ (iw_ws a4 cI 4 kf ++ (jw_ws mb2 cJ 4 ky ++ jw_ws a3 cJ 16 lf)))))))))))) [26, 27, 28, 29, 30, 31, 32, 33, 34, 35, 36, 37] rfl
    have hDc := hD.sub (ws' := (mo_ws m0 e0 (nI (t_tn T)) (nI n) (nI (t_bc T)) (lN P) (lN Q) (lN G) (lN (ckey (t_tn T) (t_kc T) (t_kp T))) (lN (t_pa T)) (lN (t_pb T)) (t_sht T) a0 a1 a2 a3 a4 a5 a6 a7 a8 a9 mb0 mb1 oc mb2 mb3 mb4 mb5 ++ (iw_ws a7 cI 256 bf ++ (iw_ws a8 cI 64 sc ++ (iw_ws a9 cI 8 st ++ (iw_ws mb0 cI 8 kS ++ (iw_ws mb1 cI 64 kR ++ (jw_ws a2 cJ 4 tf ++ (jw_ws a0 cJ 1232 nf ++ (jw_ws a1 cJ 616 cf ++ (iw_ws a4 cI 4 kf ++ (jw_ws mb2 cJ 4 ky ++ jw_ws a3 cJ 16 lf)))))))))))) [26, 27, 28, 29, 30, 31, 32, 33, 34, 35, 36, 37] (by decide) rfl
    have hKc := hK.sub (tys' := [(cJ, .long), (cI, .int)]) [0, 1] rfl
    have hFc := va_free (wc := (mo_ws m0 e0 (nI (t_tn T)) (nI n) (nI (t_bc T)) (lN P) (lN Q) (lN G) (lN (ckey (t_tn T) (t_kc T) (t_kp T))) (lN (t_pa T)) (lN (t_pb T)) (t_sht T) a0 a1 a2 a3 a4 a5 a6 a7 a8 a9 mb0 mb1 oc mb2 mb3 mb4 mb5 ++ (iw_ws a7 cI 256 bf ++ (iw_ws a8 cI 64 sc ++ (iw_ws a9 cI 8 st ++ (iw_ws mb0 cI 8 kS ++ (iw_ws mb1 cI 64 kR ++ (jw_ws a2 cJ 4 tf ++ (jw_ws a0 cJ 1232 nf ++ (jw_ws a1 cJ 616 cf ++ (iw_ws a4 cI 4 kf ++ (jw_ws mb2 cJ 4 ky ++ jw_ws a3 cJ 16 lf)))))))))))) hD hS hA [26, 27, 28, 29, 30, 31, 32, 33, 34, 35, 36, 37] rfl
    refine va_calli (va_runV (As := [.int x1, .long x2, .long x3]) (rest := []) ⟨hx, hb, hml, hown, hts⟩ (c_Bm_makeKey_2 l dC dI cJ cI H.size m0 e0 (t_tn T) n (t_bc T) P Q G (ckey (t_tn T) (t_kc T) (t_kp T)) (t_pa T) (t_pb T) (t_sht T) a0 a1 a2 a3 a4 a5 a6 a7 a8 a9 mb0 mb1 oc mb2 mb3 mb4 mb5 bf sc st kf tf nf cf ky lf (t_ko T) x1 x2 x3 htn hgr hsh0 hn hrk hko hC1 hC2) (cwV 3 hts (gw_V gk_1113 gk_1114 gk_1115 gk_7 gk_1116) rfl rfl rfl (by decide +kernel) ⟨(Nat.le_of_ble_eq_true rfl), (Nat.le_of_ble_eq_true rfl)⟩) ⟨fun a U g mk q => by obtain ⟨q0, q1, qP, qK, qD⟩ := q; exact ⟨q0, q1, qP, va_K.moved (u := U) (U := U.calling g mk a) (Vm.Alike.refl U.vm) qK, qD⟩, va_recv hK hP (ci := 8) (q0 := 26) rfl rfl, fun U hU hW => ⟨rfl, by rw [hU], by rw [hU]; exact hPc, va_K.moved hW.alike hKc, hDc.weaken (fun _ _ _ _ => trivial)⟩⟩ rfl rfl hl.1 rfl (lv_room (Nat.le_of_ble_eq_true rfl)) d_law_555 ⟨show cells + 8 + 0 ≤ 601024 by omega, show slots + 48 + 0 ≤ 7293034 by omega⟩) hS (fun q _ h => hFc q h) hFc (fun r_7 v9 t9 H1 locs ht hvm hw hB hz1 hk1 hS => ?_)
    obtain ⟨hP1, hK1, hD1⟩ := hB
    rw [ht] at hP1
    obtain ⟨hP, hD⟩ := va_joinQ (X := (jw_ws out cJ 1 of ++ (bb_ws b0 bd0 pr0 t0 au0 da (.ref g0) ++ (rw_ws da cJ (r8 u9.1.1 u9.1.2.1 u9.1.2.2.1 u9.1.2.2.2.1 u9.1.2.2.2.2.1 u9.1.2.2.2.2.2.1 u9.1.2.2.2.2.2.2.1 u9.1.2.2.2.2.2.2.2) ++ (bd_ws bd0 h0 ro lo n cR (rrf rb) (rrf lb) ++ (pr_ws pr0 h0 cm cJ u9.2.1 ++ (hu_ws h0 aw ax ay cJ cI u9.2.2 ++ (tt_ws t0 ka aa ba sa (.ref g0) cJ T ++ (au_ws au0 bd0 pr0 tu0 sd ++ (tt_ws tu0 uka uaa uba usa gu cJ T0 ++ (gp_ws g0 mF mE P f1 k1 Q f2 k2 G ++ (mo_ws m0 e0 (nI (t_tn T)) (nI n) (nI (t_bc T)) (lN P) (lN Q) (lN G) (lN (ckey (t_tn T) (t_kc T) (t_kp T))) (lN (t_pa T)) (lN (t_pb T)) (t_sht T) a0 a1 a2 a3 a4 a5 a6 a7 a8 a9 mb0 mb1 oc mb2 mb3 mb4 mb5 ++ (iw_ws a7 cI 256 bf ++ (iw_ws a8 cI 64 sc ++ (iw_ws a9 cI 8 st ++ (iw_ws mb0 cI 8 kS ++ (iw_ws mb1 cI 64 kR ++ (jw_ws a2 cJ 4 tf ++ (jw_ws a0 cJ 1232 nf ++ (jw_ws a1 cJ 616 cf ++ (iw_ws a4 cI 4 kf ++ (jw_ws mb2 cJ 4 ky ++ (jw_ws a3 cJ 16 lf ++ (iw_ws a5 cI 4 sf ++ (iw_ws a6 cI 64 vf ++ (jw_ws mb3 cJ 128 md ++ (jw_ws mb4 cJ 4 sh ++ iw_ws mb5 cI 64 ct))))))))))))))))))))))))))) (cx := (mo_ws m0 e0 (nI (t_tn T)) (nI n) (nI (t_bc T)) (lN P) (lN Q) (lN G) (lN (ckey (t_tn T) (t_kc T) (t_kp T))) (lN (t_pa T)) (lN (t_pb T)) (t_sht T) a0 a1 a2 a3 a4 a5 a6 a7 a8 a9 mb0 mb1 oc mb2 mb3 mb4 mb5 ++ (iw_ws a7 cI 256 bf ++ (iw_ws a8 cI 64 sc ++ (iw_ws a9 cI 8 st ++ (iw_ws mb0 cI 8 kS ++ (iw_ws mb1 cI 64 kR ++ (jw_ws a2 cJ 4 tf ++ (jw_ws a0 cJ 1232 nf ++ (jw_ws a1 cJ 616 cf ++ (iw_ws a4 cI 4 kf ++ (jw_ws mb2 cJ 4 ky ++ jw_ws a3 cJ 16 lf)))))))))))) (wr := (jw_ws out cJ 1 of ++ (bb_ws b0 bd0 pr0 t0 au0 da (.ref g0) ++ (rw_ws da cJ (r8 u9.1.1 u9.1.2.1 u9.1.2.2.1 u9.1.2.2.2.1 u9.1.2.2.2.2.1 u9.1.2.2.2.2.2.1 u9.1.2.2.2.2.2.2.1 u9.1.2.2.2.2.2.2.2) ++ (bd_ws bd0 h0 ro lo n cR (rrf rb) (rrf lb) ++ (pr_ws pr0 h0 cm cJ u9.2.1 ++ (hu_ws h0 aw ax ay cJ cI u9.2.2 ++ (tt_ws t0 ka aa ba sa (.ref g0) cJ T ++ (au_ws au0 bd0 pr0 tu0 sd ++ (tt_ws tu0 uka uaa uba usa gu cJ T0 ++ (gp_ws g0 mF mE P f1 k1 Q f2 k2 G ++ (iw_ws a5 cI 4 sf ++ (iw_ws a6 cI 64 vf ++ (jw_ws mb3 cJ 128 md ++ (jw_ws mb4 cJ 4 sh ++ iw_ws mb5 cI 64 ct))))))))))))))) (w1 := (mo_ws m0 2 (nI (t_tn T)) (nI n) (nI (t_bc T)) (lN P) (lN Q) (lN G) (lN (ckey (t_tn T) (t_kc T) (t_kp T))) (lN (t_pa T)) (lN (t_pb T)) (t_sht T) a0 a1 a2 a3 a4 a5 a6 a7 a8 a9 mb0 mb1 oc mb2 mb3 mb4 mb5 ++ (iw_ws a7 cI 256 bf ++ (iw_ws a8 cI 64 sc ++ (iw_ws a9 cI 8 st ++ (iw_ws mb0 cI 8 kS ++ (iw_ws mb1 cI 64 kR ++ (jw_ws a2 cJ 4 tf ++ (jw_ws a0 cJ 1232 nf ++ (jw_ws a1 cJ 616 cf ++ (iw_ws a4 cI 4 kf ++ (jw_ws mb2 cJ 4 ky ++ jw_ws a3 cJ 16 lf)))))))))))) (pl := bpool rb lb cJ R Lk) hP hD [26, 27, 28, 29, 30, 31, 32, 33, 34, 35, 36, 37] [0, 1, 2, 3, 4, 5, 6, 7, 8, 9, 10, 11, 12, 13, 14, 15, 16, 17, 18, 19, 20, 21, 22, 23, 24, 25, 38, 39, 40, 41, 42] rfl rfl (by decide) (by decide) hk1 hFc hP1 hD1
    have hP := hP.part (cx := (jw_ws out cJ 1 of ++ (bb_ws b0 bd0 pr0 t0 au0 da (.ref g0) ++ (rw_ws da cJ (r8 u9.1.1 u9.1.2.1 u9.1.2.2.1 u9.1.2.2.2.1 u9.1.2.2.2.2.1 u9.1.2.2.2.2.2.1 u9.1.2.2.2.2.2.2.1 u9.1.2.2.2.2.2.2.2) ++ (bd_ws bd0 h0 ro lo n cR (rrf rb) (rrf lb) ++ (pr_ws pr0 h0 cm cJ u9.2.1 ++ (hu_ws h0 aw ax ay cJ cI u9.2.2 ++ (tt_ws t0 ka aa ba sa (.ref g0) cJ T ++ (au_ws au0 bd0 pr0 tu0 sd ++ (tt_ws tu0 uka uaa uba usa gu cJ T0 ++ (gp_ws g0 mF mE P f1 k1 Q f2 k2 G ++ (mo_ws m0 2 (nI (t_tn T)) (nI n) (nI (t_bc T)) (lN P) (lN Q) (lN G) (lN (ckey (t_tn T) (t_kc T) (t_kp T))) (lN (t_pa T)) (lN (t_pb T)) (t_sht T) a0 a1 a2 a3 a4 a5 a6 a7 a8 a9 mb0 mb1 oc mb2 mb3 mb4 mb5 ++ (iw_ws a7 cI 256 bf ++ (iw_ws a8 cI 64 sc ++ (iw_ws a9 cI 8 st ++ (iw_ws mb0 cI 8 kS ++ (iw_ws mb1 cI 64 kR ++ (jw_ws a2 cJ 4 tf ++ (jw_ws a0 cJ 1232 nf ++ (jw_ws a1 cJ 616 cf ++ (iw_ws a4 cI 4 kf ++ (jw_ws mb2 cJ 4 ky ++ (jw_ws a3 cJ 16 lf ++ (iw_ws a5 cI 4 sf ++ (iw_ws a6 cI 64 vf ++ (jw_ws mb3 cJ 128 md ++ (jw_ws mb4 cJ 4 sh ++ iw_ws mb5 cI 64 ct))))))))))))))))))))))))))) [0, 1, 2, 3, 4, 5, 6, 7, 8, 9, 10, 11, 12, 13, 14, 15, 16, 17, 18, 19, 20, 21, 22, 23, 24, 25, 31, 32, 33, 34, 35, 36, 37, 38, 39, 40, 41, 42, 26, 27, 28, 29, 30] rfl
    have hD := hD.part (cx := (jw_ws out cJ 1 of ++ (bb_ws b0 bd0 pr0 t0 au0 da (.ref g0) ++ (rw_ws da cJ (r8 u9.1.1 u9.1.2.1 u9.1.2.2.1 u9.1.2.2.2.1 u9.1.2.2.2.2.1 u9.1.2.2.2.2.2.1 u9.1.2.2.2.2.2.2.1 u9.1.2.2.2.2.2.2.2) ++ (bd_ws bd0 h0 ro lo n cR (rrf rb) (rrf lb) ++ (pr_ws pr0 h0 cm cJ u9.2.1 ++ (hu_ws h0 aw ax ay cJ cI u9.2.2 ++ (tt_ws t0 ka aa ba sa (.ref g0) cJ T ++ (au_ws au0 bd0 pr0 tu0 sd ++ (tt_ws tu0 uka uaa uba usa gu cJ T0 ++ (gp_ws g0 mF mE P f1 k1 Q f2 k2 G ++ (mo_ws m0 2 (nI (t_tn T)) (nI n) (nI (t_bc T)) (lN P) (lN Q) (lN G) (lN (ckey (t_tn T) (t_kc T) (t_kp T))) (lN (t_pa T)) (lN (t_pb T)) (t_sht T) a0 a1 a2 a3 a4 a5 a6 a7 a8 a9 mb0 mb1 oc mb2 mb3 mb4 mb5 ++ (iw_ws a7 cI 256 bf ++ (iw_ws a8 cI 64 sc ++ (iw_ws a9 cI 8 st ++ (iw_ws mb0 cI 8 kS ++ (iw_ws mb1 cI 64 kR ++ (jw_ws a2 cJ 4 tf ++ (jw_ws a0 cJ 1232 nf ++ (jw_ws a1 cJ 616 cf ++ (iw_ws a4 cI 4 kf ++ (jw_ws mb2 cJ 4 ky ++ (jw_ws a3 cJ 16 lf ++ (iw_ws a5 cI 4 sf ++ (iw_ws a6 cI 64 vf ++ (jw_ws mb3 cJ 128 md ++ (jw_ws mb4 cJ 4 sh ++ iw_ws mb5 cI 64 ct))))))))))))))))))))))))))) [0, 1, 2, 3, 4, 5, 6, 7, 8, 9, 10, 11, 12, 13, 14, 15, 16, 17, 18, 19, 20, 21, 22, 23, 24, 25, 31, 32, 33, 34, 35, 36, 37, 38, 39, 40, 41, 42, 26, 27, 28, 29, 30] (by decide) rfl
    generalize H1 = H at hP hS ⊢
    clear hPc hDc hFc hP1 hD1 hK1 ht hk1 hz1
    refine lv_istore (lv' := [(6, .int r_7), (5, .int 2), (4, .int (nI i)), (3, .ref out), (2, .ref m0), (1, .ref b0), (0, .ref b)]) hx hb d_law_558 hl (by decide) rfl (fun ls hl => ?_)
    refine lv_aload_n hx hb d_law_560 rfl (lv_at hl 4 rfl) ?_
    have hPc := hP.sub (ws' := (mo_ws m0 2 (nI (t_tn T)) (nI n) (nI (t_bc T)) (lN P) (lN Q) (lN G) (lN (ckey (t_tn T) (t_kc T) (t_kp T))) (lN (t_pa T)) (lN (t_pb T)) (t_sht T) a0 a1 a2 a3 a4 a5 a6 a7 a8 a9 mb0 mb1 oc mb2 mb3 mb4 mb5)) [26] rfl
    have hKc := hK.sub (tys' := [(cJ, .long), (cI, .int)]) [0, 1] rfl
    refine va_calli (va_runV (As := []) (rest := []) ⟨hx, hb, hml, hown, hts⟩ (c_Bm_thrown l H dC dI cJ cI m0 2 (nI (t_tn T)) (nI n) (nI (t_bc T)) (lN P) (lN Q) (lN G) (lN (ckey (t_tn T) (t_kc T) (t_kp T))) (lN (t_pa T)) (lN (t_pb T)) (t_sht T) a0 a1 a2 a3 a4 a5 a6 a7 a8 a9 mb0 mb1 oc mb2 mb3 mb4 mb5 hPc) (cwV 0 hts (gw_V gk_1004 gk_1005 gk_1006 gk_7 gk_1007) rfl rfl rfl (by decide +kernel) ⟨(Nat.le_of_ble_eq_true rfl), (Nat.le_of_ble_eq_true rfl)⟩) ⟨fun a U g mk q => ⟨q.1, q.2.1, va_K.moved (u := U) (U := U.calling g mk a) (Vm.Alike.refl U.vm) q.2.2⟩, va_recv hK hP (ci := 8) (q0 := 26) rfl rfl, fun U hU hW => ⟨rfl, hU, va_K.moved hW.alike hKc⟩⟩ rfl rfl hl.1 rfl (lv_room (Nat.le_of_ble_eq_true rfl)) d_law_561 ⟨show cells + 8 + 0 + 0 ≤ 601024 by omega, show slots + 48 + 0 + 0 ≤ 7293034 by omega⟩) hS (fun q _ h => h.elim) (fun q h => h.elim) (fun r_8 w9 t9 H1 locs ht hvm hw9 hB hz1 hk1 hS => ?_)
    obtain rfl : H = H1 := hB.symm.trans ht
    have hw9 : r_8 = 2 := hw9
    subst hw9
    clear hPc hz1 hk1 hB
    refine lv_iload hx hb d_law_564 (lv_at hl 1 rfl) ?_
    refine lv_icmp_eq (tgt := 571) hx hb d_law_566 (by decide) (fun c_9 => ?_) (fun c_9 => ?_)
    · -- taken
      refine lv_iload hx hb d_law_571 (lv_at hl 1 rfl) ?_
      refine lv_if_ne (tgt := 588) hx hb d_law_573 (by decide) (fun c_10 => ?_) (fun c_10 => ?_)
      · -- taken
        refine lv_goto (tgt := 1965) hx hb d_law_588 (by decide) ?_
        refine W.widen (k := cells + 20) (n := slots + 200) (by omega) (by omega) ?_
        have hI9 : LI dC dI cJ cI cR A out b0 m0 H := LG.mk hP hD hR
        exact cont _ _ _ hS hI9 (lv_sub hl [2, 3, 4, 5, 6] rfl)
      · -- not taken
        exact absurd c_10 (by decide)
    · -- not taken
      exact absurd c_9 (by decide)
  refine lv_aload_n hx hb d_law_447 rfl (lv_at hl 3 rfl) ?_
  refine lv_aload_n hx hb d_law_448 rfl (lv_at hl 4 rfl) ?_
  refine lv_iload hx hb d_law_449 (lv_at hl 0 rfl) ?_
  refine lv_iconst (v := 1) hx hb d_law_451 (by decide) ?_
  refine lv_iadd hx hb d_law_452 ?_
  rw [show ((nI i) + 1 : Int32) = nI (i + 1) from nI_add _ 1]
  refine va_sld hx hb hX hbl hbA hS (vp_in_nI (by omega) (by omega)) d_law_453 ?_
  rw [show (xs (nI (i + 1)).toNatClampNeg : Int32) = xs (i + 1) from by rw [nI_clamp (by omega)]]
  rw [show (xs (i + 1) : Int32) = x1 from hx1.symm]
  refine lv_aload_n hx hb d_law_454 rfl (lv_at hl 4 rfl) ?_
  refine lv_iload hx hb d_law_455 (lv_at hl 0 rfl) ?_
  refine lv_iconst (v := 2) hx hb d_law_457 (by decide) ?_
  refine lv_iadd hx hb d_law_458 ?_
  rw [show ((nI i) + 2 : Int32) = nI (i + 2) from nI_add _ 2]
  refine va_sld hx hb hX hbl hbA hS (vp_in_nI (by omega) (by omega)) d_law_459 ?_
  rw [show (xs (nI (i + 2)).toNatClampNeg : Int32) = xs (i + 2) from by rw [nI_clamp (by omega)]]
  refine lv_i2l (v := (xs (i + 2) : Int32).toInt64) hx hb d_law_460 rfl ?_
  refine lv_bipush (v := 32) hx hb d_law_461 (by decide) ?_
  refine lv_lshl (v := ((xs (i + 2) : Int32).toInt64 : Int64) <<< ((32 : Int32).toInt64 &&& 63)) hx hb d_law_463 rfl ?_
  refine lv_aload_n hx hb d_law_464 rfl (lv_at hl 4 rfl) ?_
  refine lv_iload hx hb d_law_465 (lv_at hl 0 rfl) ?_
  refine lv_iconst (v := 3) hx hb d_law_467 (by decide) ?_
  refine lv_iadd hx hb d_law_468 ?_
  rw [show ((nI i) + 3 : Int32) = nI (i + 3) from nI_add _ 3]
  refine va_sld hx hb hX hbl hbA hS (vp_in_nI (by omega) (by omega)) d_law_469 ?_
  rw [show (xs (nI (i + 3)).toNatClampNeg : Int32) = xs (i + 3) from by rw [nI_clamp (by omega)]]
  refine lv_i2l (v := (xs (i + 3) : Int32).toInt64) hx hb d_law_470 rfl ?_
  refine lv_ldc2 (v := 4294967295) hx hb hown (hts _ (List.mem_cons_of_mem _ gk_1202)) d_law_471 ?_
  refine lv_land hx hb d_law_474 ?_
  refine lv_lor hx hb d_law_475 ?_
  rw [show ((((xs (i + 2) : Int32).toInt64 : Int64) <<< ((32 : Int32).toInt64 &&& 63)) ||| (((xs (i + 3) : Int32).toInt64) &&& 4294967295) : Int64) = x2 from hx2.symm]
  refine lv_aload_n hx hb d_law_476 rfl (lv_at hl 4 rfl) ?_
  refine lv_iload hx hb d_law_477 (lv_at hl 0 rfl) ?_
  refine lv_iconst (v := 4) hx hb d_law_479 (by decide) ?_
  refine lv_iadd hx hb d_law_480 ?_
  rw [show ((nI i) + 4 : Int32) = nI (i + 4) from nI_add _ 4]
  refine va_sld hx hb hX hbl hbA hS (vp_in_nI (by omega) (by omega)) d_law_481 ?_
  rw [show (xs (nI (i + 4)).toNatClampNeg : Int32) = xs (i + 4) from by rw [nI_clamp (by omega)]]
  refine lv_i2l (v := (xs (i + 4) : Int32).toInt64) hx hb d_law_482 rfl ?_
  refine lv_bipush (v := 32) hx hb d_law_483 (by decide) ?_
  refine lv_lshl (v := ((xs (i + 4) : Int32).toInt64 : Int64) <<< ((32 : Int32).toInt64 &&& 63)) hx hb d_law_485 rfl ?_
  refine lv_aload_n hx hb d_law_486 rfl (lv_at hl 4 rfl) ?_
  refine lv_iload hx hb d_law_487 (lv_at hl 0 rfl) ?_
  refine lv_iconst (v := 5) hx hb d_law_489 (by decide) ?_
  refine lv_iadd hx hb d_law_490 ?_
  rw [show ((nI i) + 5 : Int32) = nI (i + 5) from nI_add _ 5]
  refine va_sld hx hb hX hbl hbA hS (vp_in_nI (by omega) (by omega)) d_law_491 ?_
  rw [show (xs (nI (i + 5)).toNatClampNeg : Int32) = xs (i + 5) from by rw [nI_clamp (by omega)]]
  refine lv_i2l (v := (xs (i + 5) : Int32).toInt64) hx hb d_law_492 rfl ?_
  refine lv_ldc2 (v := 4294967295) hx hb hown (hts _ (List.mem_cons_of_mem _ gk_1202)) d_law_493 ?_
  refine lv_land hx hb d_law_496 ?_
  refine lv_lor hx hb d_law_497 ?_
  rw [show ((((xs (i + 4) : Int32).toInt64 : Int64) <<< ((32 : Int32).toInt64 &&& 63)) ||| (((xs (i + 5) : Int32).toInt64) &&& 4294967295) : Int64) = x3 from hx3.symm]
  refine lv_aload_n hx hb d_law_498 rfl (lv_at hl 1 rfl) ?_
  have hPc := hP.part (cx := (jw_ws out cJ 1 of ++ (bb_ws b0 bd0 pr0 t0 au0 da (.ref g0) ++ (rw_ws da cJ (r8 d0 d1 d2 d3 d4 d5 d6 d7) ++ (bd_ws bd0 h0 ro lo n cR (rrf rb) (rrf lb) ++ (pr_ws pr0 h0 cm cJ ccf ++ (ha_ws h0 aw ax ay cJ cI w csc cst cL ++ (tt_ws t0 ka aa ba sa (.ref g0) cJ T ++ gp_ws g0 mF mE P f1 k1 Q f2 k2 G)))))))) [0, 1, 2, 3, 4, 5, 6, 7, 8, 9, 10, 11, 12, 13, 14, 15, 16, 23, 24, 25] rfl
  have hDc := hD.part (cx := (jw_ws out cJ 1 of ++ (bb_ws b0 bd0 pr0 t0 au0 da (.ref g0) ++ (rw_ws da cJ (r8 d0 d1 d2 d3 d4 d5 d6 d7) ++ (bd_ws bd0 h0 ro lo n cR (rrf rb) (rrf lb) ++ (pr_ws pr0 h0 cm cJ ccf ++ (ha_ws h0 aw ax ay cJ cI w csc cst cL ++ (tt_ws t0 ka aa ba sa (.ref g0) cJ T ++ gp_ws g0 mF mE P f1 k1 Q f2 k2 G)))))))) [0, 1, 2, 3, 4, 5, 6, 7, 8, 9, 10, 11, 12, 13, 14, 15, 16, 23, 24, 25] (by decide) rfl
  have hKc := hK.sub (tys' := [(cJ, .long), (cI, .int), (cR, .array .long)]) [0, 1, 2] rfl
  have hFc := va_freeP (cx := (jw_ws out cJ 1 of ++ (bb_ws b0 bd0 pr0 t0 au0 da (.ref g0) ++ (rw_ws da cJ (r8 d0 d1 d2 d3 d4 d5 d6 d7) ++ (bd_ws bd0 h0 ro lo n cR (rrf rb) (rrf lb) ++ (pr_ws pr0 h0 cm cJ ccf ++ (ha_ws h0 aw ax ay cJ cI w csc cst cL ++ (tt_ws t0 ka aa ba sa (.ref g0) cJ T ++ gp_ws g0 mF mE P f1 k1 Q f2 k2 G)))))))) hD hS hA [0, 1, 2, 3, 4, 5, 6, 7, 8, 9, 10, 11, 12, 13, 14, 15, 16, 23, 24, 25] rfl
  have hZc0 : ha_Z rA sA (va_A ((jw_ws out cJ 1 of ++ (bb_ws b0 bd0 pr0 t0 au0 da (.ref g0) ++ (rw_ws da cJ (r8 d0 d1 d2 d3 d4 d5 d6 d7) ++ (bd_ws bd0 h0 ro lo n cR (rrf rb) (rrf lb) ++ (pr_ws pr0 h0 cm cJ ccf ++ (ha_ws h0 aw ax ay cJ cI w csc cst cL ++ (tt_ws t0 ka aa ba sa (.ref g0) cJ T ++ gp_ws g0 mF mE P f1 k1 Q f2 k2 G))))))) ++ bpool rb lb cJ R Lk) H.size) s H := (hZha.kept hS.2.1).narrow hFc
  have hZc1 : xz (va_A ((jw_ws out cJ 1 of ++ (bb_ws b0 bd0 pr0 t0 au0 da (.ref g0) ++ (rw_ws da cJ (r8 d0 d1 d2 d3 d4 d5 d6 d7) ++ (bd_ws bd0 h0 ro lo n cR (rrf rb) (rrf lb) ++ (pr_ws pr0 h0 cm cJ ccf ++ (ha_ws h0 aw ax ay cJ cI w csc cst cL ++ (tt_ws t0 ka aa ba sa (.ref g0) cJ T ++ gp_ws g0 mF mE P f1 k1 Q f2 k2 G))))))) ++ bpool rb lb cJ R Lk) H.size) s H := (hZx.kept hS.2.1).narrow hFc
  have hZc2 : nc_Z s := hZn
  refine vx_calli (vx_runSX (hh := h_Lw_makeKey) (As := [.ref b0, .int x1, .long x2, .long x3, .ref out]) (rest := []) ⟨hx, hb, hml, hown, hts⟩ (c_Lw_makeKey_0 l hnt dC dI cJ cI cR H.size b0 bd0 pr0 t0 au0 da h0 ro lo n rb lb cm ccf aw ax ay w csc cst cL ka aa ba sa T g0 mF mE P f1 k1 Q f2 k2 G rA sA R Lk d0 d1 d2 d3 d4 d5 d6 d7 x1 x2 x3 out of hok htok hN0 htn hkc hn hnO hC1 hC2) (vx_cwSW 5 hts (gw_Sv gk_599 gk_600 gk_0 gk_601) rfl rfl rfl (by decide +kernel) ⟨(Nat.le_of_ble_eq_true rfl), (Nat.le_of_ble_eq_true rfl)⟩) ⟨fun a U g mk q => by obtain ⟨q0, q1, qP, qK, qD, qZ0, qZ1, qZ2⟩ := q; exact ⟨q0, q1, qP, va_K.moved (u := U) (U := U.calling g mk a) (Vm.Alike.refl U.vm) qK, qD, ha_Z.moved (u := U) (U := U.calling g mk a) (Vm.Alike.refl U.vm) qZ0, xz.same (u := U) (U := U.calling g mk a) rfl qZ1, nc_Z.moved (u := U) (U := U.calling g mk a) (Vm.Alike.refl U.vm) qZ2⟩, fun U hU hW => ⟨rfl, by rw [hU], by rw [hU]; exact hPc, va_K.moved hW.alike hKc, hDc.weaken (fun _ _ _ _ => trivial), by rw [hU]; exact ha_Z.moved hW.alike hZc0, by rw [hU]; exact xz.warm hW hZc1, nc_Z.moved hW.alike hZc2⟩⟩ rfl rfl hl.1 rfl (lv_room (Nat.le_of_ble_eq_true rfl)) d_law_499 ⟨show cells + 8 ≤ 601024 by omega, show slots + 48 ≤ 7293034 by omega⟩) hS (fun q _ h => hFc q h) hFc (fun q _ h => hFc q h) (fun E9 ce9 q9 u8 t9 H1 locs ht hvm hpx hbx hz1 hk1 hS hce hcv hcl => hpx.elim) (fun r_11 u9 t9 H1 locs ht hvm hw hB hz1 hk1 hS => ?_)
  obtain ⟨hP1, hK1, hD1⟩ := hB
  rw [ht] at hP1
  obtain ⟨hP, hD⟩ := va_joinP (X := (jw_ws out cJ 1 of ++ (bb_ws b0 bd0 pr0 t0 au0 da (.ref g0) ++ (rw_ws da cJ (r8 d0 d1 d2 d3 d4 d5 d6 d7) ++ (bd_ws bd0 h0 ro lo n cR (rrf rb) (rrf lb) ++ (pr_ws pr0 h0 cm cJ ccf ++ (ha_ws h0 aw ax ay cJ cI w csc cst cL ++ (tt_ws t0 ka aa ba sa (.ref g0) cJ T ++ (au_ws au0 bd0 pr0 tu0 sd ++ (tt_ws tu0 uka uaa uba usa gu cJ T0 ++ (gp_ws g0 mF mE P f1 k1 Q f2 k2 G ++ (mo_ws m0 e0 (nI (t_tn T)) (nI n) (nI (t_bc T)) (lN P) (lN Q) (lN G) (lN (ckey (t_tn T) (t_kc T) (t_kp T))) (lN (t_pa T)) (lN (t_pb T)) (t_sht T) a0 a1 a2 a3 a4 a5 a6 a7 a8 a9 mb0 mb1 oc mb2 mb3 mb4 mb5 ++ (iw_ws a7 cI 256 bf ++ (iw_ws a8 cI 64 sc ++ (iw_ws a9 cI 8 st ++ (iw_ws mb0 cI 8 kS ++ (iw_ws mb1 cI 64 kR ++ (jw_ws a2 cJ 4 tf ++ (jw_ws a0 cJ 1232 nf ++ (jw_ws a1 cJ 616 cf ++ (iw_ws a4 cI 4 kf ++ (jw_ws mb2 cJ 4 ky ++ (jw_ws a3 cJ 16 lf ++ (iw_ws a5 cI 4 sf ++ (iw_ws a6 cI 64 vf ++ (jw_ws mb3 cJ 128 md ++ (jw_ws mb4 cJ 4 sh ++ iw_ws mb5 cI 64 ct))))))))))))))))))))))))))) (cx := (jw_ws out cJ 1 of ++ (bb_ws b0 bd0 pr0 t0 au0 da (.ref g0) ++ (rw_ws da cJ (r8 d0 d1 d2 d3 d4 d5 d6 d7) ++ (bd_ws bd0 h0 ro lo n cR (rrf rb) (rrf lb) ++ (pr_ws pr0 h0 cm cJ ccf ++ (ha_ws h0 aw ax ay cJ cI w csc cst cL ++ (tt_ws t0 ka aa ba sa (.ref g0) cJ T ++ gp_ws g0 mF mE P f1 k1 Q f2 k2 G)))))))) (wr := (au_ws au0 bd0 pr0 tu0 sd ++ (tt_ws tu0 uka uaa uba usa gu cJ T0 ++ (mo_ws m0 e0 (nI (t_tn T)) (nI n) (nI (t_bc T)) (lN P) (lN Q) (lN G) (lN (ckey (t_tn T) (t_kc T) (t_kp T))) (lN (t_pa T)) (lN (t_pb T)) (t_sht T) a0 a1 a2 a3 a4 a5 a6 a7 a8 a9 mb0 mb1 oc mb2 mb3 mb4 mb5 ++ (iw_ws a7 cI 256 bf ++ (iw_ws a8 cI 64 sc ++ (iw_ws a9 cI 8 st ++ (iw_ws mb0 cI 8 kS ++ (iw_ws mb1 cI 64 kR ++ (jw_ws a2 cJ 4 tf ++ (jw_ws a0 cJ 1232 nf ++ (jw_ws a1 cJ 616 cf ++ (iw_ws a4 cI 4 kf ++ (jw_ws mb2 cJ 4 ky ++ (jw_ws a3 cJ 16 lf ++ (iw_ws a5 cI 4 sf ++ (iw_ws a6 cI 64 vf ++ (jw_ws mb3 cJ 128 md ++ (jw_ws mb4 cJ 4 sh ++ iw_ws mb5 cI 64 ct))))))))))))))))))) (rx := (jw_ws out cJ 1 (vp_updL of 0 (lN n)) ++ (bb_ws b0 bd0 pr0 t0 au0 da (.ref g0) ++ (rw_ws da cJ (r8 (lN 1) (lN u9.1) (lN (G ^ u9.2.1 % P)) (lN (hsh Q [lN P, lN G, lN 1, lN u9.1, lN (G ^ u9.2.1 % P), lN (G ^ u9.2.2.1 % P)])) (lN ((u9.2.2.1 + (hsh Q [lN P, lN G, lN 1, lN u9.1, lN (G ^ u9.2.1 % P), lN (G ^ u9.2.2.1 % P)]) * u9.2.1 % Q) % Q)) d5 d6 d7) ++ (bd_ws bd0 h0 ro lo (n + 1) cR (rrf rb) (rrf lb) ++ (pr_ws pr0 h0 cm cJ u9.2.2.2.1 ++ (hu_ws h0 aw ax ay cJ cI u9.2.2.2.2 ++ (tt_ws t0 ka aa ba sa (.ref g0) cJ (tKey P u9.1 (vN (lN (G ^ u9.2.1 % P))) T) ++ gp_ws g0 mF mE P f1 k1 Q f2 k2 G)))))))) (pl := bpool rb lb cJ R Lk) (pl1 := bpool rb lb cJ (updF R n (r8 (lN 1) (lN u9.1) (lN (G ^ u9.2.1 % P)) (lN (hsh Q [lN P, lN G, lN 1, lN u9.1, lN (G ^ u9.2.1 % P), lN (G ^ u9.2.2.1 % P)])) (lN ((u9.2.2.1 + (hsh Q [lN P, lN G, lN 1, lN u9.1, lN (G ^ u9.2.1 % P), lN (G ^ u9.2.2.1 % P)]) * u9.2.1 % Q) % Q)) d5 d6 d7)) (updF Lk n (lkw (msgL 1 n (r8 (lN 1) (lN u9.1) (lN (G ^ u9.2.1 % P)) (lN (hsh Q [lN P, lN G, lN 1, lN u9.1, lN (G ^ u9.2.1 % P), lN (G ^ u9.2.2.1 % P)])) (lN ((u9.2.2.1 + (hsh Q [lN P, lN G, lN 1, lN u9.1, lN (G ^ u9.2.1 % P), lN (G ^ u9.2.2.1 % P)]) * u9.2.1 % Q) % Q)) d5 d6 d7) Lk)))) hP hD [0, 1, 2, 3, 4, 5, 6, 7, 8, 9, 10, 11, 12, 13, 14, 15, 16, 23, 24, 25] [17, 18, 19, 20, 21, 22, 26, 27, 28, 29, 30, 31, 32, 33, 34, 35, 36, 37, 38, 39, 40, 41, 42] rfl rfl (by decide) (by decide) hk1 hFc hP1 hD1
  have hP := hP.part (cx := (jw_ws out cJ 1 (vp_updL of 0 (lN n)) ++ (bb_ws b0 bd0 pr0 t0 au0 da (.ref g0) ++ (rw_ws da cJ (r8 (lN 1) (lN u9.1) (lN (G ^ u9.2.1 % P)) (lN (hsh Q [lN P, lN G, lN 1, lN u9.1, lN (G ^ u9.2.1 % P), lN (G ^ u9.2.2.1 % P)])) (lN ((u9.2.2.1 + (hsh Q [lN P, lN G, lN 1, lN u9.1, lN (G ^ u9.2.1 % P), lN (G ^ u9.2.2.1 % P)]) * u9.2.1 % Q) % Q)) d5 d6 d7) ++ (bd_ws bd0 h0 ro lo (n + 1) cR (rrf rb) (rrf lb) ++ (pr_ws pr0 h0 cm cJ u9.2.2.2.1 ++ (hu_ws h0 aw ax ay cJ cI u9.2.2.2.2 ++ (tt_ws t0 ka aa ba sa (.ref g0) cJ (tKey P u9.1 (vN (lN (G ^ u9.2.1 % P))) T) ++ (au_ws au0 bd0 pr0 tu0 sd ++ (tt_ws tu0 uka uaa uba usa gu cJ T0 ++ (gp_ws g0 mF mE P f1 k1 Q f2 k2 G ++ (mo_ws m0 e0 (nI (t_tn T)) (nI n) (nI (t_bc T)) (lN P) (lN Q) (lN G) (lN (ckey (t_tn T) (t_kc T) (t_kp T))) (lN (t_pa T)) (lN (t_pb T)) (t_sht T) a0 a1 a2 a3 a4 a5 a6 a7 a8 a9 mb0 mb1 oc mb2 mb3 mb4 mb5 ++ (iw_ws a7 cI 256 bf ++ (iw_ws a8 cI 64 sc ++ (iw_ws a9 cI 8 st ++ (iw_ws mb0 cI 8 kS ++ (iw_ws mb1 cI 64 kR ++ (jw_ws a2 cJ 4 tf ++ (jw_ws a0 cJ 1232 nf ++ (jw_ws a1 cJ 616 cf ++ (iw_ws a4 cI 4 kf ++ (jw_ws mb2 cJ 4 ky ++ (jw_ws a3 cJ 16 lf ++ (iw_ws a5 cI 4 sf ++ (iw_ws a6 cI 64 vf ++ (jw_ws mb3 cJ 128 md ++ (jw_ws mb4 cJ 4 sh ++ iw_ws mb5 cI 64 ct))))))))))))))))))))))))))) [23, 24, 25, 26, 27, 28, 29, 30, 31, 32, 33, 34, 35, 36, 37, 38, 39, 0, 1, 2, 3, 4, 5, 40, 41, 42, 6, 7, 8, 9, 10, 11, 12, 13, 14, 15, 16, 17, 18, 19, 20, 21, 22] rfl
  have hD := hD.part (cx := (jw_ws out cJ 1 (vp_updL of 0 (lN n)) ++ (bb_ws b0 bd0 pr0 t0 au0 da (.ref g0) ++ (rw_ws da cJ (r8 (lN 1) (lN u9.1) (lN (G ^ u9.2.1 % P)) (lN (hsh Q [lN P, lN G, lN 1, lN u9.1, lN (G ^ u9.2.1 % P), lN (G ^ u9.2.2.1 % P)])) (lN ((u9.2.2.1 + (hsh Q [lN P, lN G, lN 1, lN u9.1, lN (G ^ u9.2.1 % P), lN (G ^ u9.2.2.1 % P)]) * u9.2.1 % Q) % Q)) d5 d6 d7) ++ (bd_ws bd0 h0 ro lo (n + 1) cR (rrf rb) (rrf lb) ++ (pr_ws pr0 h0 cm cJ u9.2.2.2.1 ++ (hu_ws h0 aw ax ay cJ cI u9.2.2.2.2 ++ (tt_ws t0 ka aa ba sa (.ref g0) cJ (tKey P u9.1 (vN (lN (G ^ u9.2.1 % P))) T) ++ (au_ws au0 bd0 pr0 tu0 sd ++ (tt_ws tu0 uka uaa uba usa gu cJ T0 ++ (gp_ws g0 mF mE P f1 k1 Q f2 k2 G ++ (mo_ws m0 e0 (nI (t_tn T)) (nI n) (nI (t_bc T)) (lN P) (lN Q) (lN G) (lN (ckey (t_tn T) (t_kc T) (t_kp T))) (lN (t_pa T)) (lN (t_pb T)) (t_sht T) a0 a1 a2 a3 a4 a5 a6 a7 a8 a9 mb0 mb1 oc mb2 mb3 mb4 mb5 ++ (iw_ws a7 cI 256 bf ++ (iw_ws a8 cI 64 sc ++ (iw_ws a9 cI 8 st ++ (iw_ws mb0 cI 8 kS ++ (iw_ws mb1 cI 64 kR ++ (jw_ws a2 cJ 4 tf ++ (jw_ws a0 cJ 1232 nf ++ (jw_ws a1 cJ 616 cf ++ (iw_ws a4 cI 4 kf ++ (jw_ws mb2 cJ 4 ky ++ (jw_ws a3 cJ 16 lf ++ (iw_ws a5 cI 4 sf ++ (iw_ws a6 cI 64 vf ++ (jw_ws mb3 cJ 128 md ++ (jw_ws mb4 cJ 4 sh ++ iw_ws mb5 cI 64 ct))))))))))))))))))))))))))) [23, 24, 25, 26, 27, 28, 29, 30, 31, 32, 33, 34, 35, 36, 37, 38, 39, 0, 1, 2, 3, 4, 5, 40, 41, 42, 6, 7, 8, 9, 10, 11, 12, 13, 14, 15, 16, 17, 18, 19, 20, 21, 22] (by decide) rfl
  generalize H1 = H at hP hS ⊢
  clear hPc hDc hFc hP1 hD1 hK1 ht hk1 hz1
  have hr9 : r_11 = 0 := hw.1
  subst hr9
  have hw := hw.2
  obtain ⟨hxI, hI, hxX, hX9, hxW, hW9, _, _⟩ := hw
  have hs : ¬ t_sht T = 1 := fun q => hC1 (Or.inr (Or.inl q))
  have hk0 : t_ko T u9.1 = 0 := Classical.byContradiction (fun q => hC1 (Or.inr (Or.inr ⟨u9.1, hxI, hI, q⟩)))
  have hcl0 : t_sht T = 0 := hsh0.resolve_right hs
  have hn1 : n < 154 := hnO hs
  have hvY : vN (lN (G ^ u9.2.1 % P)) = G ^ u9.2.1 % P := vN_of rfl (by have := Nat.mod_lt (G ^ u9.2.1) (show 0 < P by omega); omega)
  have hh := mk_key hGQ (show 1 < P by omega) (show 0 < Q by omega) u9.1 u9.2.1 u9.2.2.1 _ rfl
  refine lv_istore (lv' := [(5, .int 0), (4, .int (nI i)), (3, .ref out), (2, .ref m0), (1, .ref b0), (0, .ref b)]) hx hb d_law_502 hl (by decide) rfl (fun ls hl => ?_)
  refine lv_aload_n hx hb d_law_504 rfl (lv_at hl 3 rfl) ?_
  refine lv_aload_n hx hb d_law_505 rfl (lv_at hl 5 rfl) ?_
  refine lv_iload hx hb d_law_506 (lv_at hl 1 rfl) ?_
  refine lv_iconst (v := 1) hx hb d_law_508 (by decide) ?_
  refine lv_iadd hx hb d_law_509 ?_
  rw [show ((nI i) + 1 : Int32) = nI (i + 1) from nI_add _ 1]
  refine va_sld hx hb hX hbl hbA hS (vp_in_nI (by omega) (by omega)) d_law_510 ?_
  rw [show (xs (nI (i + 1)).toNatClampNeg : Int32) = xs (i + 1) from by rw [nI_clamp (by omega)]]
  rw [show (xs (i + 1) : Int32) = nI u9.1 from (hx1.symm.trans hxI)]
  refine lv_aload_n hx hb d_law_511 rfl (lv_at hl 5 rfl) ?_
  refine lv_iload hx hb d_law_512 (lv_at hl 1 rfl) ?_
  refine lv_iconst (v := 2) hx hb d_law_514 (by decide) ?_
  refine lv_iadd hx hb d_law_515 ?_
  rw [show ((nI i) + 2 : Int32) = nI (i + 2) from nI_add _ 2]
  refine va_sld hx hb hX hbl hbA hS (vp_in_nI (by omega) (by omega)) d_law_516 ?_
  rw [show (xs (nI (i + 2)).toNatClampNeg : Int32) = xs (i + 2) from by rw [nI_clamp (by omega)]]
  refine lv_i2l (v := (xs (i + 2) : Int32).toInt64) hx hb d_law_517 rfl ?_
  refine lv_bipush (v := 32) hx hb d_law_518 (by decide) ?_
  refine lv_lshl (v := ((xs (i + 2) : Int32).toInt64 : Int64) <<< ((32 : Int32).toInt64 &&& 63)) hx hb d_law_520 rfl ?_
  refine lv_aload_n hx hb d_law_521 rfl (lv_at hl 5 rfl) ?_
  refine lv_iload hx hb d_law_522 (lv_at hl 1 rfl) ?_
  refine lv_iconst (v := 3) hx hb d_law_524 (by decide) ?_
  refine lv_iadd hx hb d_law_525 ?_
  rw [show ((nI i) + 3 : Int32) = nI (i + 3) from nI_add _ 3]
  refine va_sld hx hb hX hbl hbA hS (vp_in_nI (by omega) (by omega)) d_law_526 ?_
  rw [show (xs (nI (i + 3)).toNatClampNeg : Int32) = xs (i + 3) from by rw [nI_clamp (by omega)]]
  refine lv_i2l (v := (xs (i + 3) : Int32).toInt64) hx hb d_law_527 rfl ?_
  refine lv_ldc2 (v := 4294967295) hx hb hown (hts _ (List.mem_cons_of_mem _ gk_1202)) d_law_528 ?_
  refine lv_land hx hb d_law_531 ?_
  refine lv_lor hx hb d_law_532 ?_
  rw [show ((((xs (i + 2) : Int32).toInt64 : Int64) <<< ((32 : Int32).toInt64 &&& 63)) ||| (((xs (i + 3) : Int32).toInt64) &&& 4294967295) : Int64) = lN u9.2.1 from (hx2.symm.trans hxX)]
  refine lv_aload_n hx hb d_law_533 rfl (lv_at hl 5 rfl) ?_
  refine lv_iload hx hb d_law_534 (lv_at hl 1 rfl) ?_
  refine lv_iconst (v := 4) hx hb d_law_536 (by decide) ?_
  refine lv_iadd hx hb d_law_537 ?_
  rw [show ((nI i) + 4 : Int32) = nI (i + 4) from nI_add _ 4]
  refine va_sld hx hb hX hbl hbA hS (vp_in_nI (by omega) (by omega)) d_law_538 ?_
  rw [show (xs (nI (i + 4)).toNatClampNeg : Int32) = xs (i + 4) from by rw [nI_clamp (by omega)]]
  refine lv_i2l (v := (xs (i + 4) : Int32).toInt64) hx hb d_law_539 rfl ?_
  refine lv_bipush (v := 32) hx hb d_law_540 (by decide) ?_
  refine lv_lshl (v := ((xs (i + 4) : Int32).toInt64 : Int64) <<< ((32 : Int32).toInt64 &&& 63)) hx hb d_law_542 rfl ?_
  refine lv_aload_n hx hb d_law_543 rfl (lv_at hl 5 rfl) ?_
  refine lv_iload hx hb d_law_544 (lv_at hl 1 rfl) ?_
  refine lv_iconst (v := 5) hx hb d_law_546 (by decide) ?_
  refine lv_iadd hx hb d_law_547 ?_
  rw [show ((nI i) + 5 : Int32) = nI (i + 5) from nI_add _ 5]
  refine va_sld hx hb hX hbl hbA hS (vp_in_nI (by omega) (by omega)) d_law_548 ?_
  rw [show (xs (nI (i + 5)).toNatClampNeg : Int32) = xs (i + 5) from by rw [nI_clamp (by omega)]]
  refine lv_i2l (v := (xs (i + 5) : Int32).toInt64) hx hb d_law_549 rfl ?_
  refine lv_ldc2 (v := 4294967295) hx hb hown (hts _ (List.mem_cons_of_mem _ gk_1202)) d_law_550 ?_
  refine lv_land hx hb d_law_553 ?_
  refine lv_lor hx hb d_law_554 ?_
  rw [show ((((xs (i + 4) : Int32).toInt64 : Int64) <<< ((32 : Int32).toInt64 &&& 63)) ||| (((xs (i + 5) : Int32).toInt64) &&& 4294967295) : Int64) = lN u9.2.2.1 from (hx3.symm.trans hxW)]
  rcases Nat.eq_zero_or_pos n with hn0 | hn0
  · -- a case
    have hPc := hP.sub (ws' := (mo_ws m0 e0 (nI (t_tn T)) (nI n) (nI (t_bc T)) (lN P) (lN Q) (lN G) (lN (ckey (t_tn T) (t_kc T) (t_kp T))) (lN (t_pa T)) (lN (t_pb T)) (t_sht T) a0 a1 a2 a3 a4 a5 a6 a7 a8 a9 mb0 mb1 oc mb2 mb3 mb4 mb5 ++ (iw_ws a7 cI 256 bf ++ (iw_ws a8 cI 64 sc ++ (iw_ws a9 cI 8 st ++ (iw_ws mb0 cI 8 kS ++ (iw_ws mb1 cI 64 kR ++ (jw_ws a2 cJ 4 tf ++ (jw_ws a0 cJ 1232 nf ++ (jw_ws a1 cJ 616 cf ++ (iw_ws a4 cI 4 kf ++ (jw_ws mb2 cJ 4 ky ++ jw_ws a3 cJ 16 lf)))))))))))) [26, 27, 28, 29, 30, 31, 32, 33, 34, 35, 36, 37] rfl
    have hDc := hD.sub (ws' := (mo_ws m0 e0 (nI (t_tn T)) (nI n) (nI (t_bc T)) (lN P) (lN Q) (lN G) (lN (ckey (t_tn T) (t_kc T) (t_kp T))) (lN (t_pa T)) (lN (t_pb T)) (t_sht T) a0 a1 a2 a3 a4 a5 a6 a7 a8 a9 mb0 mb1 oc mb2 mb3 mb4 mb5 ++ (iw_ws a7 cI 256 bf ++ (iw_ws a8 cI 64 sc ++ (iw_ws a9 cI 8 st ++ (iw_ws mb0 cI 8 kS ++ (iw_ws mb1 cI 64 kR ++ (jw_ws a2 cJ 4 tf ++ (jw_ws a0 cJ 1232 nf ++ (jw_ws a1 cJ 616 cf ++ (iw_ws a4 cI 4 kf ++ (jw_ws mb2 cJ 4 ky ++ jw_ws a3 cJ 16 lf)))))))))))) [26, 27, 28, 29, 30, 31, 32, 33, 34, 35, 36, 37] (by decide) rfl
    have hKc := hK.sub (tys' := [(cJ, .long), (cI, .int)]) [0, 1] rfl
    have hFc := va_free (wc := (mo_ws m0 e0 (nI (t_tn T)) (nI n) (nI (t_bc T)) (lN P) (lN Q) (lN G) (lN (ckey (t_tn T) (t_kc T) (t_kp T))) (lN (t_pa T)) (lN (t_pb T)) (t_sht T) a0 a1 a2 a3 a4 a5 a6 a7 a8 a9 mb0 mb1 oc mb2 mb3 mb4 mb5 ++ (iw_ws a7 cI 256 bf ++ (iw_ws a8 cI 64 sc ++ (iw_ws a9 cI 8 st ++ (iw_ws mb0 cI 8 kS ++ (iw_ws mb1 cI 64 kR ++ (jw_ws a2 cJ 4 tf ++ (jw_ws a0 cJ 1232 nf ++ (jw_ws a1 cJ 616 cf ++ (iw_ws a4 cI 4 kf ++ (jw_ws mb2 cJ 4 ky ++ jw_ws a3 cJ 16 lf)))))))))))) hD hS hA [26, 27, 28, 29, 30, 31, 32, 33, 34, 35, 36, 37] rfl
    refine va_calli (va_runV (As := [.int (nI u9.1), .long (lN u9.2.1), .long (lN u9.2.2.1)]) (rest := []) ⟨hx, hb, hml, hown, hts⟩ (c_Bm_makeKey_00 l dC dI cJ cI H.size m0 e0 (t_tn T) n (t_bc T) P Q G (ckey (t_tn T) (t_kc T) (t_kp T)) (t_pa T) (t_pb T) (t_sht T) a0 a1 a2 a3 a4 a5 a6 a7 a8 a9 mb0 mb1 oc mb2 mb3 mb4 mb5 bf sc st kf tf nf cf ky lf (t_ko T) u9.1 u9.2.1 u9.2.2.1 htn hgr hsh0 hn hrk hko hN0 hcl0 hI hk0 hn1 hkP hn0 hX9 hW9) (cwV 3 hts (gw_V gk_1113 gk_1114 gk_1115 gk_7 gk_1116) rfl rfl rfl (by decide +kernel) ⟨(Nat.le_of_ble_eq_true rfl), (Nat.le_of_ble_eq_true rfl)⟩) ⟨fun a U g mk q => by obtain ⟨q0, q1, qP, qK, qD⟩ := q; exact ⟨q0, q1, qP, va_K.moved (u := U) (U := U.calling g mk a) (Vm.Alike.refl U.vm) qK, qD⟩, va_recv hK hP (ci := 8) (q0 := 26) rfl rfl, fun U hU hW => ⟨rfl, by rw [hU], by rw [hU]; exact hPc, va_K.moved hW.alike hKc, hDc.weaken (fun _ _ _ _ => trivial)⟩⟩ rfl rfl hl.1 rfl (lv_room (Nat.le_of_ble_eq_true rfl)) d_law_555 ⟨show cells + 8 + 0 ≤ 601024 by omega, show slots + 48 + 0 ≤ 7293034 by omega⟩) hS (fun q _ h => hFc q h) hFc (fun r_12 v9 t9 H1 locs ht hvm hw hB hz1 hk1 hS => ?_)
    obtain ⟨hP1, hK1, hD1⟩ := hB
    rw [ht] at hP1
    obtain ⟨hP, hD⟩ := va_joinQ (X := (jw_ws out cJ 1 (vp_updL of 0 (lN n)) ++ (bb_ws b0 bd0 pr0 t0 au0 da (.ref g0) ++ (rw_ws da cJ (r8 (lN 1) (lN u9.1) (lN (G ^ u9.2.1 % P)) (lN (hsh Q [lN P, lN G, lN 1, lN u9.1, lN (G ^ u9.2.1 % P), lN (G ^ u9.2.2.1 % P)])) (lN ((u9.2.2.1 + (hsh Q [lN P, lN G, lN 1, lN u9.1, lN (G ^ u9.2.1 % P), lN (G ^ u9.2.2.1 % P)]) * u9.2.1 % Q) % Q)) d5 d6 d7) ++ (bd_ws bd0 h0 ro lo (n + 1) cR (rrf rb) (rrf lb) ++ (pr_ws pr0 h0 cm cJ u9.2.2.2.1 ++ (hu_ws h0 aw ax ay cJ cI u9.2.2.2.2 ++ (tt_ws t0 ka aa ba sa (.ref g0) cJ (tKey P u9.1 (vN (lN (G ^ u9.2.1 % P))) T) ++ (au_ws au0 bd0 pr0 tu0 sd ++ (tt_ws tu0 uka uaa uba usa gu cJ T0 ++ (gp_ws g0 mF mE P f1 k1 Q f2 k2 G ++ (mo_ws m0 e0 (nI (t_tn T)) (nI n) (nI (t_bc T)) (lN P) (lN Q) (lN G) (lN (ckey (t_tn T) (t_kc T) (t_kp T))) (lN (t_pa T)) (lN (t_pb T)) (t_sht T) a0 a1 a2 a3 a4 a5 a6 a7 a8 a9 mb0 mb1 oc mb2 mb3 mb4 mb5 ++ (iw_ws a7 cI 256 bf ++ (iw_ws a8 cI 64 sc ++ (iw_ws a9 cI 8 st ++ (iw_ws mb0 cI 8 kS ++ (iw_ws mb1 cI 64 kR ++ (jw_ws a2 cJ 4 tf ++ (jw_ws a0 cJ 1232 nf ++ (jw_ws a1 cJ 616 cf ++ (iw_ws a4 cI 4 kf ++ (jw_ws mb2 cJ 4 ky ++ (jw_ws a3 cJ 16 lf ++ (iw_ws a5 cI 4 sf ++ (iw_ws a6 cI 64 vf ++ (jw_ws mb3 cJ 128 md ++ (jw_ws mb4 cJ 4 sh ++ iw_ws mb5 cI 64 ct))))))))))))))))))))))))))) (cx := (mo_ws m0 e0 (nI (t_tn T)) (nI n) (nI (t_bc T)) (lN P) (lN Q) (lN G) (lN (ckey (t_tn T) (t_kc T) (t_kp T))) (lN (t_pa T)) (lN (t_pb T)) (t_sht T) a0 a1 a2 a3 a4 a5 a6 a7 a8 a9 mb0 mb1 oc mb2 mb3 mb4 mb5 ++ (iw_ws a7 cI 256 bf ++ (iw_ws a8 cI 64 sc ++ (iw_ws a9 cI 8 st ++ (iw_ws mb0 cI 8 kS ++ (iw_ws mb1 cI 64 kR ++ (jw_ws a2 cJ 4 tf ++ (jw_ws a0 cJ 1232 nf ++ (jw_ws a1 cJ 616 cf ++ (iw_ws a4 cI 4 kf ++ (jw_ws mb2 cJ 4 ky ++ jw_ws a3 cJ 16 lf)))))))))))) (wr := (jw_ws out cJ 1 (vp_updL of 0 (lN n)) ++ (bb_ws b0 bd0 pr0 t0 au0 da (.ref g0) ++ (rw_ws da cJ (r8 (lN 1) (lN u9.1) (lN (G ^ u9.2.1 % P)) (lN (hsh Q [lN P, lN G, lN 1, lN u9.1, lN (G ^ u9.2.1 % P), lN (G ^ u9.2.2.1 % P)])) (lN ((u9.2.2.1 + (hsh Q [lN P, lN G, lN 1, lN u9.1, lN (G ^ u9.2.1 % P), lN (G ^ u9.2.2.1 % P)]) * u9.2.1 % Q) % Q)) d5 d6 d7) ++ (bd_ws bd0 h0 ro lo (n + 1) cR (rrf rb) (rrf lb) ++ (pr_ws pr0 h0 cm cJ u9.2.2.2.1 ++ (hu_ws h0 aw ax ay cJ cI u9.2.2.2.2 ++ (tt_ws t0 ka aa ba sa (.ref g0) cJ (tKey P u9.1 (vN (lN (G ^ u9.2.1 % P))) T) ++ (au_ws au0 bd0 pr0 tu0 sd ++ (tt_ws tu0 uka uaa uba usa gu cJ T0 ++ (gp_ws g0 mF mE P f1 k1 Q f2 k2 G ++ (iw_ws a5 cI 4 sf ++ (iw_ws a6 cI 64 vf ++ (jw_ws mb3 cJ 128 md ++ (jw_ws mb4 cJ 4 sh ++ iw_ws mb5 cI 64 ct))))))))))))))) (w1 := (mo_ws m0 0 (nI (t_tn T)) (nI (n + 1)) (nI (t_bc T)) (lN P) (lN Q) (lN G) (lN v9.2.2) (lN (t_pa T)) (lN (t_pb T)) (t_sht T) a0 a1 a2 a3 a4 a5 a6 a7 a8 a9 mb0 mb1 v9.1.2.2.2.2 mb2 mb3 mb4 mb5 ++ (iw_ws a7 cI 256 v9.1.1 ++ (iw_ws a8 cI 64 v9.1.2.1 ++ (iw_ws a9 cI 8 v9.1.2.2.1 ++ (iw_ws mb0 cI 8 kS ++ (iw_ws mb1 cI 64 kR ++ (jw_ws a2 cJ 4 v9.1.2.2.2.1 ++ (jw_ws a0 cJ 1232 (w8 nf (8 * n) (lN 1) (lN u9.1) (lN (G ^ u9.2.1 % P)) (lN (hsh Q [lN P, lN G, 1, lN u9.1, lN (G ^ u9.2.1 % P), lN (G ^ u9.2.2.1 % P)])) (lN ((u9.2.2.1 + (hsh Q [lN P, lN G, 1, lN u9.1, lN (G ^ u9.2.1 % P), lN (G ^ u9.2.2.1 % P)]) * u9.2.1 % Q) % Q)) 0 0 0) ++ (jw_ws a1 cJ 616 (c4 cf (4 * n) (lkw [0, 0, 0, 0, lN 1, lN u9.1, lN (G ^ u9.2.1 % P), lN (hsh Q [lN P, lN G, 1, lN u9.1, lN (G ^ u9.2.1 % P), lN (G ^ u9.2.2.1 % P)]), lN ((u9.2.2.1 + (hsh Q [lN P, lN G, 1, lN u9.1, lN (G ^ u9.2.1 % P), lN (G ^ u9.2.2.1 % P)]) * u9.2.1 % Q) % Q)])) ++ (iw_ws a4 cI 4 (upd kf u9.1 (nI n)) ++ (jw_ws mb2 cJ 4 (vp_updL ky u9.1 (lN (G ^ u9.2.1 % P))) ++ jw_ws a3 cJ 16 v9.2.1)))))))))))) (pl := bpool rb lb cJ (updF R n (r8 (lN 1) (lN u9.1) (lN (G ^ u9.2.1 % P)) (lN (hsh Q [lN P, lN G, lN 1, lN u9.1, lN (G ^ u9.2.1 % P), lN (G ^ u9.2.2.1 % P)])) (lN ((u9.2.2.1 + (hsh Q [lN P, lN G, lN 1, lN u9.1, lN (G ^ u9.2.1 % P), lN (G ^ u9.2.2.1 % P)]) * u9.2.1 % Q) % Q)) d5 d6 d7)) (updF Lk n (lkw (msgL 1 n (r8 (lN 1) (lN u9.1) (lN (G ^ u9.2.1 % P)) (lN (hsh Q [lN P, lN G, lN 1, lN u9.1, lN (G ^ u9.2.1 % P), lN (G ^ u9.2.2.1 % P)])) (lN ((u9.2.2.1 + (hsh Q [lN P, lN G, lN 1, lN u9.1, lN (G ^ u9.2.1 % P), lN (G ^ u9.2.2.1 % P)]) * u9.2.1 % Q) % Q)) d5 d6 d7) Lk)))) hP hD [26, 27, 28, 29, 30, 31, 32, 33, 34, 35, 36, 37] [0, 1, 2, 3, 4, 5, 6, 7, 8, 9, 10, 11, 12, 13, 14, 15, 16, 17, 18, 19, 20, 21, 22, 23, 24, 25, 38, 39, 40, 41, 42] rfl rfl (by decide) (by decide) hk1 hFc hP1 hD1
    have hP := hP.part (cx := (jw_ws out cJ 1 (vp_updL of 0 (lN n)) ++ (bb_ws b0 bd0 pr0 t0 au0 da (.ref g0) ++ (rw_ws da cJ (r8 (lN 1) (lN u9.1) (lN (G ^ u9.2.1 % P)) (lN (hsh Q [lN P, lN G, lN 1, lN u9.1, lN (G ^ u9.2.1 % P), lN (G ^ u9.2.2.1 % P)])) (lN ((u9.2.2.1 + (hsh Q [lN P, lN G, lN 1, lN u9.1, lN (G ^ u9.2.1 % P), lN (G ^ u9.2.2.1 % P)]) * u9.2.1 % Q) % Q)) d5 d6 d7) ++ (bd_ws bd0 h0 ro lo (n + 1) cR (rrf rb) (rrf lb) ++ (pr_ws pr0 h0 cm cJ u9.2.2.2.1 ++ (hu_ws h0 aw ax ay cJ cI u9.2.2.2.2 ++ (tt_ws t0 ka aa ba sa (.ref g0) cJ (tKey P u9.1 (vN (lN (G ^ u9.2.1 % P))) T) ++ (au_ws au0 bd0 pr0 tu0 sd ++ (tt_ws tu0 uka uaa uba usa gu cJ T0 ++ (gp_ws g0 mF mE P f1 k1 Q f2 k2 G ++ (mo_ws m0 0 (nI (t_tn T)) (nI (n + 1)) (nI (t_bc T)) (lN P) (lN Q) (lN G) (lN v9.2.2) (lN (t_pa T)) (lN (t_pb T)) (t_sht T) a0 a1 a2 a3 a4 a5 a6 a7 a8 a9 mb0 mb1 v9.1.2.2.2.2 mb2 mb3 mb4 mb5 ++ (iw_ws a7 cI 256 v9.1.1 ++ (iw_ws a8 cI 64 v9.1.2.1 ++ (iw_ws a9 cI 8 v9.1.2.2.1 ++ (iw_ws mb0 cI 8 kS ++ (iw_ws mb1 cI 64 kR ++ (jw_ws a2 cJ 4 v9.1.2.2.2.1 ++ (jw_ws a0 cJ 1232 (w8 nf (8 * n) (lN 1) (lN u9.1) (lN (G ^ u9.2.1 % P)) (lN (hsh Q [lN P, lN G, 1, lN u9.1, lN (G ^ u9.2.1 % P), lN (G ^ u9.2.2.1 % P)])) (lN ((u9.2.2.1 + (hsh Q [lN P, lN G, 1, lN u9.1, lN (G ^ u9.2.1 % P), lN (G ^ u9.2.2.1 % P)]) * u9.2.1 % Q) % Q)) 0 0 0) ++ (jw_ws a1 cJ 616 (c4 cf (4 * n) (lkw [0, 0, 0, 0, lN 1, lN u9.1, lN (G ^ u9.2.1 % P), lN (hsh Q [lN P, lN G, 1, lN u9.1, lN (G ^ u9.2.1 % P), lN (G ^ u9.2.2.1 % P)]), lN ((u9.2.2.1 + (hsh Q [lN P, lN G, 1, lN u9.1, lN (G ^ u9.2.1 % P), lN (G ^ u9.2.2.1 % P)]) * u9.2.1 % Q) % Q)])) ++ (iw_ws a4 cI 4 (upd kf u9.1 (nI n)) ++ (jw_ws mb2 cJ 4 (vp_updL ky u9.1 (lN (G ^ u9.2.1 % P))) ++ (jw_ws a3 cJ 16 v9.2.1 ++ (iw_ws a5 cI 4 sf ++ (iw_ws a6 cI 64 vf ++ (jw_ws mb3 cJ 128 md ++ (jw_ws mb4 cJ 4 sh ++ iw_ws mb5 cI 64 ct))))))))))))))))))))))))))) [0, 1, 2, 3, 4, 5, 6, 7, 8, 9, 10, 11, 12, 13, 14, 15, 16, 17, 18, 19, 20, 21, 22, 23, 24, 25, 31, 32, 33, 34, 35, 36, 37, 38, 39, 40, 41, 42, 26, 27, 28, 29, 30] rfl
    have hD := hD.part (cx := (jw_ws out cJ 1 (vp_updL of 0 (lN n)) ++ (bb_ws b0 bd0 pr0 t0 au0 da (.ref g0) ++ (rw_ws da cJ (r8 (lN 1) (lN u9.1) (lN (G ^ u9.2.1 % P)) (lN (hsh Q [lN P, lN G, lN 1, lN u9.1, lN (G ^ u9.2.1 % P), lN (G ^ u9.2.2.1 % P)])) (lN ((u9.2.2.1 + (hsh Q [lN P, lN G, lN 1, lN u9.1, lN (G ^ u9.2.1 % P), lN (G ^ u9.2.2.1 % P)]) * u9.2.1 % Q) % Q)) d5 d6 d7) ++ (bd_ws bd0 h0 ro lo (n + 1) cR (rrf rb) (rrf lb) ++ (pr_ws pr0 h0 cm cJ u9.2.2.2.1 ++ (hu_ws h0 aw ax ay cJ cI u9.2.2.2.2 ++ (tt_ws t0 ka aa ba sa (.ref g0) cJ (tKey P u9.1 (vN (lN (G ^ u9.2.1 % P))) T) ++ (au_ws au0 bd0 pr0 tu0 sd ++ (tt_ws tu0 uka uaa uba usa gu cJ T0 ++ (gp_ws g0 mF mE P f1 k1 Q f2 k2 G ++ (mo_ws m0 0 (nI (t_tn T)) (nI (n + 1)) (nI (t_bc T)) (lN P) (lN Q) (lN G) (lN v9.2.2) (lN (t_pa T)) (lN (t_pb T)) (t_sht T) a0 a1 a2 a3 a4 a5 a6 a7 a8 a9 mb0 mb1 v9.1.2.2.2.2 mb2 mb3 mb4 mb5 ++ (iw_ws a7 cI 256 v9.1.1 ++ (iw_ws a8 cI 64 v9.1.2.1 ++ (iw_ws a9 cI 8 v9.1.2.2.1 ++ (iw_ws mb0 cI 8 kS ++ (iw_ws mb1 cI 64 kR ++ (jw_ws a2 cJ 4 v9.1.2.2.2.1 ++ (jw_ws a0 cJ 1232 (w8 nf (8 * n) (lN 1) (lN u9.1) (lN (G ^ u9.2.1 % P)) (lN (hsh Q [lN P, lN G, 1, lN u9.1, lN (G ^ u9.2.1 % P), lN (G ^ u9.2.2.1 % P)])) (lN ((u9.2.2.1 + (hsh Q [lN P, lN G, 1, lN u9.1, lN (G ^ u9.2.1 % P), lN (G ^ u9.2.2.1 % P)]) * u9.2.1 % Q) % Q)) 0 0 0) ++ (jw_ws a1 cJ 616 (c4 cf (4 * n) (lkw [0, 0, 0, 0, lN 1, lN u9.1, lN (G ^ u9.2.1 % P), lN (hsh Q [lN P, lN G, 1, lN u9.1, lN (G ^ u9.2.1 % P), lN (G ^ u9.2.2.1 % P)]), lN ((u9.2.2.1 + (hsh Q [lN P, lN G, 1, lN u9.1, lN (G ^ u9.2.1 % P), lN (G ^ u9.2.2.1 % P)]) * u9.2.1 % Q) % Q)])) ++ (iw_ws a4 cI 4 (upd kf u9.1 (nI n)) ++ (jw_ws mb2 cJ 4 (vp_updL ky u9.1 (lN (G ^ u9.2.1 % P))) ++ (jw_ws a3 cJ 16 v9.2.1 ++ (iw_ws a5 cI 4 sf ++ (iw_ws a6 cI 64 vf ++ (jw_ws mb3 cJ 128 md ++ (jw_ws mb4 cJ 4 sh ++ iw_ws mb5 cI 64 ct))))))))))))))))))))))))))) [0, 1, 2, 3, 4, 5, 6, 7, 8, 9, 10, 11, 12, 13, 14, 15, 16, 17, 18, 19, 20, 21, 22, 23, 24, 25, 31, 32, 33, 34, 35, 36, 37, 38, 39, 40, 41, 42, 26, 27, 28, 29, 30] (by decide) rfl
    generalize H1 = H at hP hS ⊢
    clear hPc hDc hFc hP1 hD1 hK1 ht hk1 hz1
    obtain ⟨hr8, hal9⟩ := hw
    subst hr8
    rw [← hvY] at hal9
    refine lv_istore (lv' := [(6, .int (nI n)), (5, .int 0), (4, .int (nI i)), (3, .ref out), (2, .ref m0), (1, .ref b0), (0, .ref b)]) hx hb d_law_558 hl (by decide) rfl (fun ls hl => ?_)
    refine lv_aload_n hx hb d_law_560 rfl (lv_at hl 4 rfl) ?_
    have hPc := hP.sub (ws' := (mo_ws m0 0 (nI (t_tn T)) (nI (n + 1)) (nI (t_bc T)) (lN P) (lN Q) (lN G) (lN v9.2.2) (lN (t_pa T)) (lN (t_pb T)) (t_sht T) a0 a1 a2 a3 a4 a5 a6 a7 a8 a9 mb0 mb1 v9.1.2.2.2.2 mb2 mb3 mb4 mb5)) [26] rfl
    have hKc := hK.sub (tys' := [(cJ, .long), (cI, .int)]) [0, 1] rfl
    refine va_calli (va_runV (As := []) (rest := []) ⟨hx, hb, hml, hown, hts⟩ (c_Bm_thrown l H dC dI cJ cI m0 0 (nI (t_tn T)) (nI (n + 1)) (nI (t_bc T)) (lN P) (lN Q) (lN G) (lN v9.2.2) (lN (t_pa T)) (lN (t_pb T)) (t_sht T) a0 a1 a2 a3 a4 a5 a6 a7 a8 a9 mb0 mb1 v9.1.2.2.2.2 mb2 mb3 mb4 mb5 hPc) (cwV 0 hts (gw_V gk_1004 gk_1005 gk_1006 gk_7 gk_1007) rfl rfl rfl (by decide +kernel) ⟨(Nat.le_of_ble_eq_true rfl), (Nat.le_of_ble_eq_true rfl)⟩) ⟨fun a U g mk q => ⟨q.1, q.2.1, va_K.moved (u := U) (U := U.calling g mk a) (Vm.Alike.refl U.vm) q.2.2⟩, va_recv hK hP (ci := 8) (q0 := 26) rfl rfl, fun U hU hW => ⟨rfl, hU, va_K.moved hW.alike hKc⟩⟩ rfl rfl hl.1 rfl (lv_room (Nat.le_of_ble_eq_true rfl)) d_law_561 ⟨show cells + 8 + 0 + 0 ≤ 601024 by omega, show slots + 48 + 0 + 0 ≤ 7293034 by omega⟩) hS (fun q _ h => h.elim) (fun q h => h.elim) (fun r_13 w9 t9 H1 locs ht hvm hw9 hB hz1 hk1 hS => ?_)
    obtain rfl : H = H1 := hB.symm.trans ht
    have hw9 : r_13 = 0 := hw9
    subst hw9
    clear hPc hz1 hk1 hB
    refine lv_iload hx hb d_law_564 (lv_at hl 1 rfl) ?_
    refine lv_icmp_eq (tgt := 571) hx hb d_law_566 (by decide) (fun c_14 => ?_) (fun c_14 => ?_)
    · -- taken
      refine lv_iload hx hb d_law_571 (lv_at hl 1 rfl) ?_
      refine lv_if_ne (tgt := 588) hx hb d_law_573 (by decide) (fun c_15 => ?_) (fun c_15 => ?_)
      · -- taken
        exact absurd rfl c_15
      · -- not taken
        refine lv_aload_n hx hb d_law_576 rfl (lv_at hl 3 rfl) ?_
        refine lv_iconst (v := 0) hx hb d_law_577 (by decide) ?_
        refine va_lald hx hb hK hP 0 0 rfl rfl (vp_lit rfl) d_law_578 ?_
        refine lv_topl (fun v_16 ev_16 => ?_)
        obtain rfl : v_16 = lN n := ev_16.trans rfl
        refine lv_iload hx hb d_law_579 (lv_at hl 0 rfl) ?_
        refine lv_i2l (v := (nI n : Int32).toInt64) hx hb d_law_581 rfl ?_
        refine W.lcmp hx hb d_law_582 ?_
        refine lv_if_eq (tgt := 588) hx hb d_law_583 (by decide) (fun c_17 => ?_) (fun c_17 => ?_)
        · -- taken
          refine lv_goto (tgt := 1965) hx hb d_law_588 (by decide) ?_
          refine W.widen (k := cells + 20) (n := slots + 200) (by omega) (by omega) ?_
          have hI9 : LI dC dI cJ cI cR A out b0 m0 H := LG.mk hP hD (rel_key hR hI hk0 hs hh hal9 d5 d6 d7 (congrArg lkw (msg5_0 hn0 (by decide))))
          exact cont _ _ _ hS hI9 (lv_sub hl [2, 3, 4, 5, 6] rfl)
        · -- not taken
          exact absurd (lgc (nI_l (by omega)).symm) c_17
    · -- not taken
      exact absurd c_14 (by decide)
  · -- a case
    have hPc := hP.sub (ws' := (mo_ws m0 e0 (nI (t_tn T)) (nI n) (nI (t_bc T)) (lN P) (lN Q) (lN G) (lN (ckey (t_tn T) (t_kc T) (t_kp T))) (lN (t_pa T)) (lN (t_pb T)) (t_sht T) a0 a1 a2 a3 a4 a5 a6 a7 a8 a9 mb0 mb1 oc mb2 mb3 mb4 mb5 ++ (iw_ws a7 cI 256 bf ++ (iw_ws a8 cI 64 sc ++ (iw_ws a9 cI 8 st ++ (iw_ws mb0 cI 8 kS ++ (iw_ws mb1 cI 64 kR ++ (jw_ws a2 cJ 4 tf ++ (jw_ws a0 cJ 1232 nf ++ (jw_ws a1 cJ 616 cf ++ (iw_ws a4 cI 4 kf ++ (jw_ws mb2 cJ 4 ky ++ jw_ws a3 cJ 16 lf)))))))))))) [26, 27, 28, 29, 30, 31, 32, 33, 34, 35, 36, 37] rfl
    have hDc := hD.sub (ws' := (mo_ws m0 e0 (nI (t_tn T)) (nI n) (nI (t_bc T)) (lN P) (lN Q) (lN G) (lN (ckey (t_tn T) (t_kc T) (t_kp T))) (lN (t_pa T)) (lN (t_pb T)) (t_sht T) a0 a1 a2 a3 a4 a5 a6 a7 a8 a9 mb0 mb1 oc mb2 mb3 mb4 mb5 ++ (iw_ws a7 cI 256 bf ++ (iw_ws a8 cI 64 sc ++ (iw_ws a9 cI 8 st ++ (iw_ws mb0 cI 8 kS ++ (iw_ws mb1 cI 64 kR ++ (jw_ws a2 cJ 4 tf ++ (jw_ws a0 cJ 1232 nf ++ (jw_ws a1 cJ 616 cf ++ (iw_ws a4 cI 4 kf ++ (jw_ws mb2 cJ 4 ky ++ jw_ws a3 cJ 16 lf)))))))))))) [26, 27, 28, 29, 30, 31, 32, 33, 34, 35, 36, 37] (by decide) rfl
    have hKc := hK.sub (tys' := [(cJ, .long), (cI, .int)]) [0, 1] rfl
    have hFc := va_free (wc := (mo_ws m0 e0 (nI (t_tn T)) (nI n) (nI (t_bc T)) (lN P) (lN Q) (lN G) (lN (ckey (t_tn T) (t_kc T) (t_kp T))) (lN (t_pa T)) (lN (t_pb T)) (t_sht T) a0 a1 a2 a3 a4 a5 a6 a7 a8 a9 mb0 mb1 oc mb2 mb3 mb4 mb5 ++ (iw_ws a7 cI 256 bf ++ (iw_ws a8 cI 64 sc ++ (iw_ws a9 cI 8 st ++ (iw_ws mb0 cI 8 kS ++ (iw_ws mb1 cI 64 kR ++ (jw_ws a2 cJ 4 tf ++ (jw_ws a0 cJ 1232 nf ++ (jw_ws a1 cJ 616 cf ++ (iw_ws a4 cI 4 kf ++ (jw_ws mb2 cJ 4 ky ++ jw_ws a3 cJ 16 lf)))))))))))) hD hS hA [26, 27, 28, 29, 30, 31, 32, 33, 34, 35, 36, 37] rfl
    refine va_calli (va_runV (As := [.int (nI u9.1), .long (lN u9.2.1), .long (lN u9.2.2.1)]) (rest := []) ⟨hx, hb, hml, hown, hts⟩ (c_Bm_makeKey_05 l dC dI cJ cI H.size m0 e0 (t_tn T) n (t_bc T) P Q G (ckey (t_tn T) (t_kc T) (t_kp T)) (t_pa T) (t_pb T) (t_sht T) a0 a1 a2 a3 a4 a5 a6 a7 a8 a9 mb0 mb1 oc mb2 mb3 mb4 mb5 bf sc st kf tf nf cf ky lf (t_ko T) u9.1 u9.2.1 u9.2.2.1 htn hgr hsh0 hn hrk hko hN0 hcl0 hI hk0 hn1 hkP hn0 hX9 hW9) (cwV 3 hts (gw_V gk_1113 gk_1114 gk_1115 gk_7 gk_1116) rfl rfl rfl (by decide +kernel) ⟨(Nat.le_of_ble_eq_true rfl), (Nat.le_of_ble_eq_true rfl)⟩) ⟨fun a U g mk q => by obtain ⟨q0, q1, qP, qK, qD⟩ := q; exact ⟨q0, q1, qP, va_K.moved (u := U) (U := U.calling g mk a) (Vm.Alike.refl U.vm) qK, qD⟩, va_recv hK hP (ci := 8) (q0 := 26) rfl rfl, fun U hU hW => ⟨rfl, by rw [hU], by rw [hU]; exact hPc, va_K.moved hW.alike hKc, hDc.weaken (fun _ _ _ _ => trivial)⟩⟩ rfl rfl hl.1 rfl (lv_room (Nat.le_of_ble_eq_true rfl)) d_law_555 ⟨show cells + 8 + 0 ≤ 601024 by omega, show slots + 48 + 0 ≤ 7293034 by omega⟩) hS (fun q _ h => hFc q h) hFc (fun r_18 v9 t9 H1 locs ht hvm hw hB hz1 hk1 hS => ?_)
    obtain ⟨hP1, hK1, hD1⟩ := hB
    rw [ht] at hP1
    obtain ⟨hP, hD⟩ := va_joinQ (X := (jw_ws out cJ 1 (vp_updL of 0 (lN n)) ++ (bb_ws b0 bd0 pr0 t0 au0 da (.ref g0) ++ (rw_ws da cJ (r8 (lN 1) (lN u9.1) (lN (G ^ u9.2.1 % P)) (lN (hsh Q [lN P, lN G, lN 1, lN u9.1, lN (G ^ u9.2.1 % P), lN (G ^ u9.2.2.1 % P)])) (lN ((u9.2.2.1 + (hsh Q [lN P, lN G, lN 1, lN u9.1, lN (G ^ u9.2.1 % P), lN (G ^ u9.2.2.1 % P)]) * u9.2.1 % Q) % Q)) d5 d6 d7) ++ (bd_ws bd0 h0 ro lo (n + 1) cR (rrf rb) (rrf lb) ++ (pr_ws pr0 h0 cm cJ u9.2.2.2.1 ++ (hu_ws h0 aw ax ay cJ cI u9.2.2.2.2 ++ (tt_ws t0 ka aa ba sa (.ref g0) cJ (tKey P u9.1 (vN (lN (G ^ u9.2.1 % P))) T) ++ (au_ws au0 bd0 pr0 tu0 sd ++ (tt_ws tu0 uka uaa uba usa gu cJ T0 ++ (gp_ws g0 mF mE P f1 k1 Q f2 k2 G ++ (mo_ws m0 e0 (nI (t_tn T)) (nI n) (nI (t_bc T)) (lN P) (lN Q) (lN G) (lN (ckey (t_tn T) (t_kc T) (t_kp T))) (lN (t_pa T)) (lN (t_pb T)) (t_sht T) a0 a1 a2 a3 a4 a5 a6 a7 a8 a9 mb0 mb1 oc mb2 mb3 mb4 mb5 ++ (iw_ws a7 cI 256 bf ++ (iw_ws a8 cI 64 sc ++ (iw_ws a9 cI 8 st ++ (iw_ws mb0 cI 8 kS ++ (iw_ws mb1 cI 64 kR ++ (jw_ws a2 cJ 4 tf ++ (jw_ws a0 cJ 1232 nf ++ (jw_ws a1 cJ 616 cf ++ (iw_ws a4 cI 4 kf ++ (jw_ws mb2 cJ 4 ky ++ (jw_ws a3 cJ 16 lf ++ (iw_ws a5 cI 4 sf ++ (iw_ws a6 cI 64 vf ++ (jw_ws mb3 cJ 128 md ++ (jw_ws mb4 cJ 4 sh ++ iw_ws mb5 cI 64 ct))))))))))))))))))))))))))) (cx := (mo_ws m0 e0 (nI (t_tn T)) (nI n) (nI (t_bc T)) (lN P) (lN Q) (lN G) (lN (ckey (t_tn T) (t_kc T) (t_kp T))) (lN (t_pa T)) (lN (t_pb T)) (t_sht T) a0 a1 a2 a3 a4 a5 a6 a7 a8 a9 mb0 mb1 oc mb2 mb3 mb4 mb5 ++ (iw_ws a7 cI 256 bf ++ (iw_ws a8 cI 64 sc ++ (iw_ws a9 cI 8 st ++ (iw_ws mb0 cI 8 kS ++ (iw_ws mb1 cI 64 kR ++ (jw_ws a2 cJ 4 tf ++ (jw_ws a0 cJ 1232 nf ++ (jw_ws a1 cJ 616 cf ++ (iw_ws a4 cI 4 kf ++ (jw_ws mb2 cJ 4 ky ++ jw_ws a3 cJ 16 lf)))))))))))) (wr := (jw_ws out cJ 1 (vp_updL of 0 (lN n)) ++ (bb_ws b0 bd0 pr0 t0 au0 da (.ref g0) ++ (rw_ws da cJ (r8 (lN 1) (lN u9.1) (lN (G ^ u9.2.1 % P)) (lN (hsh Q [lN P, lN G, lN 1, lN u9.1, lN (G ^ u9.2.1 % P), lN (G ^ u9.2.2.1 % P)])) (lN ((u9.2.2.1 + (hsh Q [lN P, lN G, lN 1, lN u9.1, lN (G ^ u9.2.1 % P), lN (G ^ u9.2.2.1 % P)]) * u9.2.1 % Q) % Q)) d5 d6 d7) ++ (bd_ws bd0 h0 ro lo (n + 1) cR (rrf rb) (rrf lb) ++ (pr_ws pr0 h0 cm cJ u9.2.2.2.1 ++ (hu_ws h0 aw ax ay cJ cI u9.2.2.2.2 ++ (tt_ws t0 ka aa ba sa (.ref g0) cJ (tKey P u9.1 (vN (lN (G ^ u9.2.1 % P))) T) ++ (au_ws au0 bd0 pr0 tu0 sd ++ (tt_ws tu0 uka uaa uba usa gu cJ T0 ++ (gp_ws g0 mF mE P f1 k1 Q f2 k2 G ++ (iw_ws a5 cI 4 sf ++ (iw_ws a6 cI 64 vf ++ (jw_ws mb3 cJ 128 md ++ (jw_ws mb4 cJ 4 sh ++ iw_ws mb5 cI 64 ct))))))))))))))) (w1 := (mo_ws m0 0 (nI (t_tn T)) (nI (n + 1)) (nI (t_bc T)) (lN P) (lN Q) (lN G) (lN v9.2.2) (lN (t_pa T)) (lN (t_pb T)) (t_sht T) a0 a1 a2 a3 a4 a5 a6 a7 a8 a9 mb0 mb1 v9.1.2.2.2.2 mb2 mb3 mb4 mb5 ++ (iw_ws a7 cI 256 v9.1.1 ++ (iw_ws a8 cI 64 v9.1.2.1 ++ (iw_ws a9 cI 8 v9.1.2.2.1 ++ (iw_ws mb0 cI 8 kS ++ (iw_ws mb1 cI 64 kR ++ (jw_ws a2 cJ 4 v9.1.2.2.2.1 ++ (jw_ws a0 cJ 1232 (w8 nf (8 * n) (lN 1) (lN u9.1) (lN (G ^ u9.2.1 % P)) (lN (hsh Q [lN P, lN G, 1, lN u9.1, lN (G ^ u9.2.1 % P), lN (G ^ u9.2.2.1 % P)])) (lN ((u9.2.2.1 + (hsh Q [lN P, lN G, 1, lN u9.1, lN (G ^ u9.2.1 % P), lN (G ^ u9.2.2.1 % P)]) * u9.2.1 % Q) % Q)) 0 0 0) ++ (jw_ws a1 cJ 616 (c4 cf (4 * n) (lkw [cf (4 * (n - 1) + 0), cf (4 * (n - 1) + 1), cf (4 * (n - 1) + 2), cf (4 * (n - 1) + 3), lN 1, lN u9.1, lN (G ^ u9.2.1 % P), lN (hsh Q [lN P, lN G, 1, lN u9.1, lN (G ^ u9.2.1 % P), lN (G ^ u9.2.2.1 % P)]), lN ((u9.2.2.1 + (hsh Q [lN P, lN G, 1, lN u9.1, lN (G ^ u9.2.1 % P), lN (G ^ u9.2.2.1 % P)]) * u9.2.1 % Q) % Q)])) ++ (iw_ws a4 cI 4 (upd kf u9.1 (nI n)) ++ (jw_ws mb2 cJ 4 (vp_updL ky u9.1 (lN (G ^ u9.2.1 % P))) ++ jw_ws a3 cJ 16 v9.2.1)))))))))))) (pl := bpool rb lb cJ (updF R n (r8 (lN 1) (lN u9.1) (lN (G ^ u9.2.1 % P)) (lN (hsh Q [lN P, lN G, lN 1, lN u9.1, lN (G ^ u9.2.1 % P), lN (G ^ u9.2.2.1 % P)])) (lN ((u9.2.2.1 + (hsh Q [lN P, lN G, lN 1, lN u9.1, lN (G ^ u9.2.1 % P), lN (G ^ u9.2.2.1 % P)]) * u9.2.1 % Q) % Q)) d5 d6 d7)) (updF Lk n (lkw (msgL 1 n (r8 (lN 1) (lN u9.1) (lN (G ^ u9.2.1 % P)) (lN (hsh Q [lN P, lN G, lN 1, lN u9.1, lN (G ^ u9.2.1 % P), lN (G ^ u9.2.2.1 % P)])) (lN ((u9.2.2.1 + (hsh Q [lN P, lN G, lN 1, lN u9.1, lN (G ^ u9.2.1 % P), lN (G ^ u9.2.2.1 % P)]) * u9.2.1 % Q) % Q)) d5 d6 d7) Lk)))) hP hD [26, 27, 28, 29, 30, 31, 32, 33, 34, 35, 36, 37] [0, 1, 2, 3, 4, 5, 6, 7, 8, 9, 10, 11, 12, 13, 14, 15, 16, 17, 18, 19, 20, 21, 22, 23, 24, 25, 38, 39, 40, 41, 42] rfl rfl (by decide) (by decide) hk1 hFc hP1 hD1
    have hP := hP.part (cx := (jw_ws out cJ 1 (vp_updL of 0 (lN n)) ++ (bb_ws b0 bd0 pr0 t0 au0 da (.ref g0) ++ (rw_ws da cJ (r8 (lN 1) (lN u9.1) (lN (G ^ u9.2.1 % P)) (lN (hsh Q [lN P, lN G, lN 1, lN u9.1, lN (G ^ u9.2.1 % P), lN (G ^ u9.2.2.1 % P)])) (lN ((u9.2.2.1 + (hsh Q [lN P, lN G, lN 1, lN u9.1, lN (G ^ u9.2.1 % P), lN (G ^ u9.2.2.1 % P)]) * u9.2.1 % Q) % Q)) d5 d6 d7) ++ (bd_ws bd0 h0 ro lo (n + 1) cR (rrf rb) (rrf lb) ++ (pr_ws pr0 h0 cm cJ u9.2.2.2.1 ++ (hu_ws h0 aw ax ay cJ cI u9.2.2.2.2 ++ (tt_ws t0 ka aa ba sa (.ref g0) cJ (tKey P u9.1 (vN (lN (G ^ u9.2.1 % P))) T) ++ (au_ws au0 bd0 pr0 tu0 sd ++ (tt_ws tu0 uka uaa uba usa gu cJ T0 ++ (gp_ws g0 mF mE P f1 k1 Q f2 k2 G ++ (mo_ws m0 0 (nI (t_tn T)) (nI (n + 1)) (nI (t_bc T)) (lN P) (lN Q) (lN G) (lN v9.2.2) (lN (t_pa T)) (lN (t_pb T)) (t_sht T) a0 a1 a2 a3 a4 a5 a6 a7 a8 a9 mb0 mb1 v9.1.2.2.2.2 mb2 mb3 mb4 mb5 ++ (iw_ws a7 cI 256 v9.1.1 ++ (iw_ws a8 cI 64 v9.1.2.1 ++ (iw_ws a9 cI 8 v9.1.2.2.1 ++ (iw_ws mb0 cI 8 kS ++ (iw_ws mb1 cI 64 kR ++ (jw_ws a2 cJ 4 v9.1.2.2.2.1 ++ (jw_ws a0 cJ 1232 (w8 nf (8 * n) (lN 1) (lN u9.1) (lN (G ^ u9.2.1 % P)) (lN (hsh Q [lN P, lN G, 1, lN u9.1, lN (G ^ u9.2.1 % P), lN (G ^ u9.2.2.1 % P)])) (lN ((u9.2.2.1 + (hsh Q [lN P, lN G, 1, lN u9.1, lN (G ^ u9.2.1 % P), lN (G ^ u9.2.2.1 % P)]) * u9.2.1 % Q) % Q)) 0 0 0) ++ (jw_ws a1 cJ 616 (c4 cf (4 * n) (lkw [cf (4 * (n - 1) + 0), cf (4 * (n - 1) + 1), cf (4 * (n - 1) + 2), cf (4 * (n - 1) + 3), lN 1, lN u9.1, lN (G ^ u9.2.1 % P), lN (hsh Q [lN P, lN G, 1, lN u9.1, lN (G ^ u9.2.1 % P), lN (G ^ u9.2.2.1 % P)]), lN ((u9.2.2.1 + (hsh Q [lN P, lN G, 1, lN u9.1, lN (G ^ u9.2.1 % P), lN (G ^ u9.2.2.1 % P)]) * u9.2.1 % Q) % Q)])) ++ (iw_ws a4 cI 4 (upd kf u9.1 (nI n)) ++ (jw_ws mb2 cJ 4 (vp_updL ky u9.1 (lN (G ^ u9.2.1 % P))) ++ (jw_ws a3 cJ 16 v9.2.1 ++ (iw_ws a5 cI 4 sf ++ (iw_ws a6 cI 64 vf ++ (jw_ws mb3 cJ 128 md ++ (jw_ws mb4 cJ 4 sh ++ iw_ws mb5 cI 64 ct))))))))))))))))))))))))))) [0, 1, 2, 3, 4, 5, 6, 7, 8, 9, 10, 11, 12, 13, 14, 15, 16, 17, 18, 19, 20, 21, 22, 23, 24, 25, 31, 32, 33, 34, 35, 36, 37, 38, 39, 40, 41, 42, 26, 27, 28, 29, 30] rfl
    have hD := hD.part (cx := (jw_ws out cJ 1 (vp_updL of 0 (lN n)) ++ (bb_ws b0 bd0 pr0 t0 au0 da (.ref g0) ++ (rw_ws da cJ (r8 (lN 1) (lN u9.1) (lN (G ^ u9.2.1 % P)) (lN (hsh Q [lN P, lN G, lN 1, lN u9.1, lN (G ^ u9.2.1 % P), lN (G ^ u9.2.2.1 % P)])) (lN ((u9.2.2.1 + (hsh Q [lN P, lN G, lN 1, lN u9.1, lN (G ^ u9.2.1 % P), lN (G ^ u9.2.2.1 % P)]) * u9.2.1 % Q) % Q)) d5 d6 d7) ++ (bd_ws bd0 h0 ro lo (n + 1) cR (rrf rb) (rrf lb) ++ (pr_ws pr0 h0 cm cJ u9.2.2.2.1 ++ (hu_ws h0 aw ax ay cJ cI u9.2.2.2.2 ++ (tt_ws t0 ka aa ba sa (.ref g0) cJ (tKey P u9.1 (vN (lN (G ^ u9.2.1 % P))) T) ++ (au_ws au0 bd0 pr0 tu0 sd ++ (tt_ws tu0 uka uaa uba usa gu cJ T0 ++ (gp_ws g0 mF mE P f1 k1 Q f2 k2 G ++ (mo_ws m0 0 (nI (t_tn T)) (nI (n + 1)) (nI (t_bc T)) (lN P) (lN Q) (lN G) (lN v9.2.2) (lN (t_pa T)) (lN (t_pb T)) (t_sht T) a0 a1 a2 a3 a4 a5 a6 a7 a8 a9 mb0 mb1 v9.1.2.2.2.2 mb2 mb3 mb4 mb5 ++ (iw_ws a7 cI 256 v9.1.1 ++ (iw_ws a8 cI 64 v9.1.2.1 ++ (iw_ws a9 cI 8 v9.1.2.2.1 ++ (iw_ws mb0 cI 8 kS ++ (iw_ws mb1 cI 64 kR ++ (jw_ws a2 cJ 4 v9.1.2.2.2.1 ++ (jw_ws a0 cJ 1232 (w8 nf (8 * n) (lN 1) (lN u9.1) (lN (G ^ u9.2.1 % P)) (lN (hsh Q [lN P, lN G, 1, lN u9.1, lN (G ^ u9.2.1 % P), lN (G ^ u9.2.2.1 % P)])) (lN ((u9.2.2.1 + (hsh Q [lN P, lN G, 1, lN u9.1, lN (G ^ u9.2.1 % P), lN (G ^ u9.2.2.1 % P)]) * u9.2.1 % Q) % Q)) 0 0 0) ++ (jw_ws a1 cJ 616 (c4 cf (4 * n) (lkw [cf (4 * (n - 1) + 0), cf (4 * (n - 1) + 1), cf (4 * (n - 1) + 2), cf (4 * (n - 1) + 3), lN 1, lN u9.1, lN (G ^ u9.2.1 % P), lN (hsh Q [lN P, lN G, 1, lN u9.1, lN (G ^ u9.2.1 % P), lN (G ^ u9.2.2.1 % P)]), lN ((u9.2.2.1 + (hsh Q [lN P, lN G, 1, lN u9.1, lN (G ^ u9.2.1 % P), lN (G ^ u9.2.2.1 % P)]) * u9.2.1 % Q) % Q)])) ++ (iw_ws a4 cI 4 (upd kf u9.1 (nI n)) ++ (jw_ws mb2 cJ 4 (vp_updL ky u9.1 (lN (G ^ u9.2.1 % P))) ++ (jw_ws a3 cJ 16 v9.2.1 ++ (iw_ws a5 cI 4 sf ++ (iw_ws a6 cI 64 vf ++ (jw_ws mb3 cJ 128 md ++ (jw_ws mb4 cJ 4 sh ++ iw_ws mb5 cI 64 ct))))))))))))))))))))))))))) [0, 1, 2, 3, 4, 5, 6, 7, 8, 9, 10, 11, 12, 13, 14, 15, 16, 17, 18, 19, 20, 21, 22, 23, 24, 25, 31, 32, 33, 34, 35, 36, 37, 38, 39, 40, 41, 42, 26, 27, 28, 29, 30] (by decide) rfl
    generalize H1 = H at hP hS ⊢
    clear hPc hDc hFc hP1 hD1 hK1 ht hk1 hz1
    obtain ⟨hr8, hal9⟩ := hw
    subst hr8
    rw [← hvY] at hal9
    refine lv_istore (lv' := [(6, .int (nI n)), (5, .int 0), (4, .int (nI i)), (3, .ref out), (2, .ref m0), (1, .ref b0), (0, .ref b)]) hx hb d_law_558 hl (by decide) rfl (fun ls hl => ?_)
    refine lv_aload_n hx hb d_law_560 rfl (lv_at hl 4 rfl) ?_
    have hPc := hP.sub (ws' := (mo_ws m0 0 (nI (t_tn T)) (nI (n + 1)) (nI (t_bc T)) (lN P) (lN Q) (lN G) (lN v9.2.2) (lN (t_pa T)) (lN (t_pb T)) (t_sht T) a0 a1 a2 a3 a4 a5 a6 a7 a8 a9 mb0 mb1 v9.1.2.2.2.2 mb2 mb3 mb4 mb5)) [26] rfl
    have hKc := hK.sub (tys' := [(cJ, .long), (cI, .int)]) [0, 1] rfl
    refine va_calli (va_runV (As := []) (rest := []) ⟨hx, hb, hml, hown, hts⟩ (c_Bm_thrown l H dC dI cJ cI m0 0 (nI (t_tn T)) (nI (n + 1)) (nI (t_bc T)) (lN P) (lN Q) (lN G) (lN v9.2.2) (lN (t_pa T)) (lN (t_pb T)) (t_sht T) a0 a1 a2 a3 a4 a5 a6 a7 a8 a9 mb0 mb1 v9.1.2.2.2.2 mb2 mb3 mb4 mb5 hPc) (cwV 0 hts (gw_V gk_1004 gk_1005 gk_1006 gk_7 gk_1007) rfl rfl rfl (by decide +kernel) ⟨(Nat.le_of_ble_eq_true rfl), (Nat.le_of_ble_eq_true rfl)⟩) ⟨fun a U g mk q => ⟨q.1, q.2.1, va_K.moved (u := U) (U := U.calling g mk a) (Vm.Alike.refl U.vm) q.2.2⟩, va_recv hK hP (ci := 8) (q0 := 26) rfl rfl, fun U hU hW => ⟨rfl, hU, va_K.moved hW.alike hKc⟩⟩ rfl rfl hl.1 rfl (lv_room (Nat.le_of_ble_eq_true rfl)) d_law_561 ⟨show cells + 8 + 0 + 0 ≤ 601024 by omega, show slots + 48 + 0 + 0 ≤ 7293034 by omega⟩) hS (fun q _ h => h.elim) (fun q h => h.elim) (fun r_19 w9 t9 H1 locs ht hvm hw9 hB hz1 hk1 hS => ?_)
    obtain rfl : H = H1 := hB.symm.trans ht
    have hw9 : r_19 = 0 := hw9
    subst hw9
    clear hPc hz1 hk1 hB
    refine lv_iload hx hb d_law_564 (lv_at hl 1 rfl) ?_
    refine lv_icmp_eq (tgt := 571) hx hb d_law_566 (by decide) (fun c_20 => ?_) (fun c_20 => ?_)
    · -- taken
      refine lv_iload hx hb d_law_571 (lv_at hl 1 rfl) ?_
      refine lv_if_ne (tgt := 588) hx hb d_law_573 (by decide) (fun c_21 => ?_) (fun c_21 => ?_)
      · -- taken
        exact absurd rfl c_21
      · -- not taken
        refine lv_aload_n hx hb d_law_576 rfl (lv_at hl 3 rfl) ?_
        refine lv_iconst (v := 0) hx hb d_law_577 (by decide) ?_
        refine va_lald hx hb hK hP 0 0 rfl rfl (vp_lit rfl) d_law_578 ?_
        refine lv_topl (fun v_22 ev_22 => ?_)
        obtain rfl : v_22 = lN n := ev_22.trans rfl
        refine lv_iload hx hb d_law_579 (lv_at hl 0 rfl) ?_
        refine lv_i2l (v := (nI n : Int32).toInt64) hx hb d_law_581 rfl ?_
        refine W.lcmp hx hb d_law_582 ?_
        refine lv_if_eq (tgt := 588) hx hb d_law_583 (by decide) (fun c_23 => ?_) (fun c_23 => ?_)
        · -- taken
          refine lv_goto (tgt := 1965) hx hb d_law_588 (by decide) ?_
          refine W.widen (k := cells + 20) (n := slots + 200) (by omega) (by omega) ?_
          have hI9 : LI dC dI cJ cI cR A out b0 m0 H := LG.mk hP hD (rel_key hR hI hk0 hs hh hal9 d5 d6 d7 (congrArg lkw (msg5 hn0 (by decide) hcfR)))
          exact cont _ _ _ hS hI9 (lv_sub hl [2, 3, 4, 5, 6] rfl)
        · -- not taken
          exact absurd (lgc (nI_l (by omega)).symm) c_23
    · -- not taken
      exact absurd c_20 (by decide)
