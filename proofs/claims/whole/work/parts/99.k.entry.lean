theorem d_law_1621 : decode code 1621 = .ok (.aload_n 1, 1) := by decide +kernel
theorem d_law_1622 : decode code 1622 = .ok (.aload_n 0, 1) := by decide +kernel
theorem d_law_1623 : decode code 1623 = .ok (.iload 4, 2) := by decide +kernel
theorem d_law_1625 : decode code 1625 = .ok (.iconst 1, 1) := by decide +kernel
theorem d_law_1626 : decode code 1626 = .ok (.iadd, 1) := by decide +kernel
theorem d_law_1627 : decode code 1627 = .ok (.iaload, 1) := by decide +kernel
theorem d_law_1628 : decode code 1628 = .ok (.aload_n 0, 1) := by decide +kernel
theorem d_law_1629 : decode code 1629 = .ok (.iload 4, 2) := by decide +kernel
theorem d_law_1631 : decode code 1631 = .ok (.iconst 2, 1) := by decide +kernel
theorem d_law_1632 : decode code 1632 = .ok (.iadd, 1) := by decide +kernel
theorem d_law_1633 : decode code 1633 = .ok (.iaload, 1) := by decide +kernel
theorem d_law_1634 : decode code 1634 = .ok (.aload_n 3, 1) := by decide +kernel
theorem d_law_1635 : decode code 1635 = .ok (.invokestatic 110, 3) := by decide +kernel
theorem d_law_1638 : decode code 1638 = .ok (.istore 5, 2) := by decide +kernel
theorem d_law_1640 : decode code 1640 = .ok (.aload_n 2, 1) := by decide +kernel
theorem d_law_1641 : decode code 1641 = .ok (.aload_n 0, 1) := by decide +kernel
theorem d_law_1642 : decode code 1642 = .ok (.iload 4, 2) := by decide +kernel
theorem d_law_1644 : decode code 1644 = .ok (.iconst 1, 1) := by decide +kernel
theorem d_law_1645 : decode code 1645 = .ok (.iadd, 1) := by decide +kernel
theorem d_law_1646 : decode code 1646 = .ok (.iaload, 1) := by decide +kernel
theorem d_law_1647 : decode code 1647 = .ok (.aload_n 0, 1) := by decide +kernel
theorem d_law_1648 : decode code 1648 = .ok (.iload 4, 2) := by decide +kernel
theorem d_law_1650 : decode code 1650 = .ok (.iconst 2, 1) := by decide +kernel
theorem d_law_1651 : decode code 1651 = .ok (.iadd, 1) := by decide +kernel
theorem d_law_1652 : decode code 1652 = .ok (.iaload, 1) := by decide +kernel
theorem d_law_1653 : decode code 1653 = .ok (.invokevirtual 113, 3) := by decide +kernel
theorem d_law_1656 : decode code 1656 = .ok (.lstore 6, 2) := by decide +kernel
theorem d_law_1658 : decode code 1658 = .ok (.aload_n 2, 1) := by decide +kernel
theorem d_law_1659 : decode code 1659 = .ok (.invokevirtual 78, 3) := by decide +kernel
theorem d_law_1662 : decode code 1662 = .ok (.iload 5, 2) := by decide +kernel
theorem d_law_1664 : decode code 1664 = .ok (.if_icmp .eq 5, 3) := by decide +kernel
theorem d_law_1667 : decode code 1667 = .ok (.iconst 0, 1) := by decide +kernel
theorem d_law_1668 : decode code 1668 = .ok (.ireturn, 1) := by decide +kernel
theorem d_law_1669 : decode code 1669 = .ok (.iload 5, 2) := by decide +kernel
theorem d_law_1671 : decode code 1671 = .ok (.ifCond .ne 14, 3) := by decide +kernel
theorem d_law_1674 : decode code 1674 = .ok (.aload_n 3, 1) := by decide +kernel
theorem d_law_1675 : decode code 1675 = .ok (.iconst 0, 1) := by decide +kernel
theorem d_law_1676 : decode code 1676 = .ok (.laload, 1) := by decide +kernel
theorem d_law_1677 : decode code 1677 = .ok (.lload 6, 2) := by decide +kernel
theorem d_law_1679 : decode code 1679 = .ok (.lcmp, 1) := by decide +kernel
theorem d_law_1680 : decode code 1680 = .ok (.ifCond .eq 5, 3) := by decide +kernel
theorem d_law_1683 : decode code 1683 = .ok (.iconst 0, 1) := by decide +kernel
theorem d_law_1684 : decode code 1684 = .ok (.ireturn, 1) := by decide +kernel
theorem d_law_1685 : decode code 1685 = .ok (.goto 280, 3) := by decide +kernel
theorem d_law_1688 : decode code 1688 = .ok (.aload_n 1, 1) := by decide +kernel
theorem d_law_1689 : decode code 1689 = .ok (.aload_n 0, 1) := by decide +kernel
theorem d_law_1690 : decode code 1690 = .ok (.iload 4, 2) := by decide +kernel
theorem d_law_1692 : decode code 1692 = .ok (.iconst 1, 1) := by decide +kernel
theorem d_law_1693 : decode code 1693 = .ok (.iadd, 1) := by decide +kernel
theorem d_law_1694 : decode code 1694 = .ok (.iaload, 1) := by decide +kernel
theorem d_law_1695 : decode code 1695 = .ok (.aload_n 0, 1) := by decide +kernel
theorem d_law_1696 : decode code 1696 = .ok (.iload 4, 2) := by decide +kernel
theorem d_law_1698 : decode code 1698 = .ok (.iconst 2, 1) := by decide +kernel
theorem d_law_1699 : decode code 1699 = .ok (.iadd, 1) := by decide +kernel
theorem d_law_1700 : decode code 1700 = .ok (.iaload, 1) := by decide +kernel
theorem d_law_1701 : decode code 1701 = .ok (.aload_n 3, 1) := by decide +kernel
theorem d_law_1702 : decode code 1702 = .ok (.invokestatic 114, 3) := by decide +kernel
theorem d_law_1705 : decode code 1705 = .ok (.istore 5, 2) := by decide +kernel
theorem d_law_1707 : decode code 1707 = .ok (.aload_n 2, 1) := by decide +kernel
theorem d_law_1708 : decode code 1708 = .ok (.aload_n 0, 1) := by decide +kernel
theorem d_law_1709 : decode code 1709 = .ok (.iload 4, 2) := by decide +kernel
theorem d_law_1711 : decode code 1711 = .ok (.iconst 1, 1) := by decide +kernel
theorem d_law_1712 : decode code 1712 = .ok (.iadd, 1) := by decide +kernel
theorem d_law_1713 : decode code 1713 = .ok (.iaload, 1) := by decide +kernel
theorem d_law_1714 : decode code 1714 = .ok (.aload_n 0, 1) := by decide +kernel
theorem d_law_1715 : decode code 1715 = .ok (.iload 4, 2) := by decide +kernel
theorem d_law_1717 : decode code 1717 = .ok (.iconst 2, 1) := by decide +kernel
theorem d_law_1718 : decode code 1718 = .ok (.iadd, 1) := by decide +kernel
theorem d_law_1719 : decode code 1719 = .ok (.iaload, 1) := by decide +kernel
theorem d_law_1720 : decode code 1720 = .ok (.invokevirtual 116, 3) := by decide +kernel
theorem d_law_1723 : decode code 1723 = .ok (.lstore 6, 2) := by decide +kernel
theorem d_law_1725 : decode code 1725 = .ok (.aload_n 2, 1) := by decide +kernel
theorem d_law_1726 : decode code 1726 = .ok (.invokevirtual 78, 3) := by decide +kernel
theorem d_law_1729 : decode code 1729 = .ok (.iload 5, 2) := by decide +kernel
theorem d_law_1731 : decode code 1731 = .ok (.if_icmp .eq 5, 3) := by decide +kernel
theorem d_law_1734 : decode code 1734 = .ok (.iconst 0, 1) := by decide +kernel
theorem d_law_1735 : decode code 1735 = .ok (.ireturn, 1) := by decide +kernel
theorem d_law_1736 : decode code 1736 = .ok (.iload 5, 2) := by decide +kernel
theorem d_law_1738 : decode code 1738 = .ok (.ifCond .ne 14, 3) := by decide +kernel
theorem d_law_1741 : decode code 1741 = .ok (.aload_n 3, 1) := by decide +kernel
theorem d_law_1742 : decode code 1742 = .ok (.iconst 0, 1) := by decide +kernel
theorem d_law_1743 : decode code 1743 = .ok (.laload, 1) := by decide +kernel
theorem d_law_1744 : decode code 1744 = .ok (.lload 6, 2) := by decide +kernel
theorem d_law_1746 : decode code 1746 = .ok (.lcmp, 1) := by decide +kernel
theorem d_law_1747 : decode code 1747 = .ok (.ifCond .eq 5, 3) := by decide +kernel
theorem d_law_1750 : decode code 1750 = .ok (.iconst 0, 1) := by decide +kernel
theorem d_law_1751 : decode code 1751 = .ok (.ireturn, 1) := by decide +kernel
theorem d_law_1752 : decode code 1752 = .ok (.goto 213, 3) := by decide +kernel
set_option maxHeartbeats 16000000 in
set_option maxRecDepth 100000 in
theorem bk_entry_g {p : Program} {l : Launch} {e : Env} {s : State} {m : MethodId} {below : List Frame} {meth : Method} {c : Code} {b L : Nat} {xs : Nat → Int32} {dC : Nat → ClassId} {dI : Nat → Nat → Nat} {cJ cI cR : ClassId} {A : Nat → Prop} {out b0 m0 : Nat} {rA sA wA : Nat} (C : LC p l s m meth c b L xs dC dI cJ cI cR A rA sA wA) {i cells slots : Nat} (hi : i + 14 ≤ L) (hcs : cells + 20 ≤ 601024 ∧ slots + 200 ≤ 7293034) (cont : LK p l e s m below meth c b dC dI cJ cI cR A out b0 m0 i (cells + 20) (slots + 200) 1965) {H : Heap} {locs : List Loc} {ls : Array Slot} (hS : va_S A s.heap H locs) (hI : LG dC dI cJ cI cR A out b0 m0 H) (hl : lv_has ls 8 [(4, .int (nI i)), (3, .ref out), (2, .ref m0), (1, .ref b0), (0, .ref b)]) : W p l e room_1 s m #[Value.ref b] below meth c H locs cells slots (lw_Z below #[Value.ref b] s) (F0 m 1621 ls []) := by
  obtain ⟨hnt, ⟨hx, hb, hr, hml, hown, hts0, hX, hbl, hlocks, hgv⟩, hK, hA, hbA, hZha, hZx, hZn, hZw, hL⟩ := C
  have hown : s.vm.findClass "BallotBoardLaw" = some m.cls := hown
  have hts := lw_hts hts0
  refine hI _ (fun bd0 pr0 t0 au0 da h0 ro lo rb lb cm aw ax ay ka aa ba sa tu0 uka uaa uba usa a0 a1 a2 a3 a4 a5 a6 a7 a8 a9 mb0 mb1 oc mb2 mb3 mb4 mb5 cL of w tf nf cf ky lf md sh ccf csc cst bf sc st kf sf vf ct gu d0 d1 d2 d3 d4 d5 d6 d7 e0 R Lk g0 mF mE P f1 k1 Q f2 k2 G N n sd bc al pa pb cl T T0 kd wh hP hD hR => ?_)
  have q1 := hR.1.2.2.2.1.1
  subst q1
  have q2 := hR.2.2.2.1.1
  subst q2
  have q3 := hR.2.2.2.1.2.1
  subst q3
  have q4 := hR.2.2.2.1.2.2.1
  subst q4
  have q5 := hR.2.2.2.1.2.2.2.1
  subst q5
  have q6 := hR.2.2.2.1.2.2.2.2.1
  subst q6
  obtain ⟨⟨hok, htok, hN0, htn, hkc, hn⟩, ⟨hnO, hnS, hn0S, hn0B, hbc, hsc, hsh0⟩, ⟨hgr, hrk, hrs, hrb, hko, hkP⟩, ⟨hal, hclN, hky, hpa, hmd, haP, hbP⟩, ⟨hsP, hsp, hpb, hwf, hEI, hnfR, hcfR, hkf⟩, ⟨hnfk, hkq, hsd, hsn, hsdd, h0k, hkca⟩, ⟨hPQ, h61F, hQ3, hG2, hGP, hGQ⟩, hTt, hTt0, hRT⟩ := LG_facts hR
  obtain ⟨x1, hx1⟩ : ∃ v, v = xs (i + 1) := ⟨_, rfl⟩
  obtain ⟨x2, hx2⟩ : ∃ v, v = xs (i + 2) := ⟨_, rfl⟩
  by_cases hC : hasE n kd x1 x2
  · -- it holds
    refine lv_aload_n hx hb d_law_1621 rfl (lv_at hl 3 rfl) ?_
    refine lv_aload_n hx hb d_law_1622 rfl (lv_at hl 4 rfl) ?_
    refine lv_iload hx hb d_law_1623 (lv_at hl 0 rfl) ?_
    refine lv_iconst (v := 1) hx hb d_law_1625 (by decide) ?_
    refine lv_iadd hx hb d_law_1626 ?_
    rw [show ((nI i) + 1 : Int32) = nI (i + 1) from nI_add _ 1]
    refine va_sld hx hb hX hbl hbA hS (vp_in_nI (by omega) (by omega)) d_law_1627 ?_
    rw [show (xs (nI (i + 1)).toNatClampNeg : Int32) = xs (i + 1) from by rw [nI_clamp (by omega)]]
    rw [show (xs (i + 1) : Int32) = x1 from hx1.symm]
    refine lv_aload_n hx hb d_law_1628 rfl (lv_at hl 4 rfl) ?_
    refine lv_iload hx hb d_law_1629 (lv_at hl 0 rfl) ?_
    refine lv_iconst (v := 2) hx hb d_law_1631 (by decide) ?_
    refine lv_iadd hx hb d_law_1632 ?_
    rw [show ((nI i) + 2 : Int32) = nI (i + 2) from nI_add _ 2]
    refine va_sld hx hb hX hbl hbA hS (vp_in_nI (by omega) (by omega)) d_law_1633 ?_
    rw [show (xs (nI (i + 2)).toNatClampNeg : Int32) = xs (i + 2) from by rw [nI_clamp (by omega)]]
    rw [show (xs (i + 2) : Int32) = x2 from hx2.symm]
    refine lv_aload_n hx hb d_law_1634 rfl (lv_at hl 1 rfl) ?_
    have hPc := hP.part (cx := (jw_ws out cJ 1 of ++ (bb_ws b0 bd0 pr0 t0 au0 da (.ref g0) ++ bd_ws bd0 h0 ro lo n cR (rrf rb) (rrf lb)))) [0, 1, 3, 4, 5] rfl
    have hDc := hD.part (cx := (jw_ws out cJ 1 of ++ (bb_ws b0 bd0 pr0 t0 au0 da (.ref g0) ++ bd_ws bd0 h0 ro lo n cR (rrf rb) (rrf lb)))) [0, 1, 3, 4, 5] (by decide) rfl
    have hKc := hK.sub (tys' := [(cJ, .long), (cI, .int), (cR, .array .long)]) [0, 1, 2] rfl
    have hFc := va_freeP (cx := (jw_ws out cJ 1 of ++ (bb_ws b0 bd0 pr0 t0 au0 da (.ref g0) ++ bd_ws bd0 h0 ro lo n cR (rrf rb) (rrf lb)))) hD hS hA [0, 1, 3, 4, 5] rfl
    have hZc0 : xz (va_A ((jw_ws out cJ 1 of ++ (bb_ws b0 bd0 pr0 t0 au0 da (.ref g0) ++ bd_ws bd0 h0 ro lo n cR (rrf rb) (rrf lb))) ++ bpool rb lb cJ R Lk) H.size) s H := (hZx.kept hS.2.1).narrow hFc
    have hZc1 : nc_Z s := hZn
    refine vx_calli (vx_runSX (hh := h_Lw_entry) (As := [.ref b0, .int x1, .int x2, .ref out]) (rest := []) ⟨hx, hb, hml, hown, hts⟩ (c_Lw_entry_0 l hnt dC dI cJ cI cR H.size b0 bd0 pr0 t0 au0 da (.ref g0) h0 ro lo n rb lb (t_tn T) kd wh R Lk x1 x2 out of hwf hC) (vx_cwSW 4 hts (gw_Sv gk_751 gk_752 gk_0 gk_753) rfl rfl rfl (by decide +kernel) ⟨(Nat.le_of_ble_eq_true rfl), (Nat.le_of_ble_eq_true rfl)⟩) ⟨fun a U g mk q => by obtain ⟨q0, q1, qP, qK, qD, qZ0, qZ1⟩ := q; exact ⟨q0, q1, qP, va_K.moved (u := U) (U := U.calling g mk a) (Vm.Alike.refl U.vm) qK, qD, xz.same (u := U) (U := U.calling g mk a) rfl qZ0, nc_Z.moved (u := U) (U := U.calling g mk a) (Vm.Alike.refl U.vm) qZ1⟩, fun U hU hW => ⟨rfl, by rw [hU], by rw [hU]; exact hPc, va_K.moved hW.alike hKc, hDc.weaken (fun _ _ _ _ => trivial), by rw [hU]; exact xz.warm hW hZc0, nc_Z.moved hW.alike hZc1⟩⟩ rfl rfl hl.1 rfl (lv_room (Nat.le_of_ble_eq_true rfl)) d_law_1635 ⟨show cells + 8 ≤ 601024 by omega, show slots + 48 ≤ 7293034 by omega⟩) hS (fun q _ h => hFc q h) hFc (fun q _ h => hFc q h) (fun E9 ce9 q9 u8 t9 H1 locs ht hvm hpx hbx hz1 hk1 hS hce hcv hcl => hpx.elim) (fun r_1 u9 t9 H1 locs ht hvm hw hB hz1 hk1 hS => ?_)
    obtain ⟨hP1, hK1, hD1⟩ := hB
    rw [ht] at hP1
    obtain ⟨hP, hD⟩ := va_joinP (X := (jw_ws out cJ 1 of ++ (bb_ws b0 bd0 pr0 t0 au0 da (.ref g0) ++ (rw_ws da cJ (r8 d0 d1 d2 d3 d4 d5 d6 d7) ++ (bd_ws bd0 h0 ro lo n cR (rrf rb) (rrf lb) ++ (pr_ws pr0 h0 cm cJ ccf ++ (ha_ws h0 aw ax ay cJ cI w csc cst cL ++ (tt_ws t0 ka aa ba sa (.ref g0) cJ T ++ (au_ws au0 bd0 pr0 tu0 sd ++ (tt_ws tu0 uka uaa uba usa gu cJ T0 ++ (gp_ws g0 mF mE P f1 k1 Q f2 k2 G ++ (mo_ws m0 e0 (nI (t_tn T)) (nI n) (nI (t_bc T)) (lN P) (lN Q) (lN G) (lN (ckey (t_tn T) (t_kc T) (t_kp T))) (lN (t_pa T)) (lN (t_pb T)) (t_sht T) a0 a1 a2 a3 a4 a5 a6 a7 a8 a9 mb0 mb1 oc mb2 mb3 mb4 mb5 ++ (iw_ws a7 cI 256 bf ++ (iw_ws a8 cI 64 sc ++ (iw_ws a9 cI 8 st ++ (iw_ws mb0 cI 8 kS ++ (iw_ws mb1 cI 64 kR ++ (jw_ws a2 cJ 4 tf ++ (jw_ws a0 cJ 1232 nf ++ (jw_ws a1 cJ 616 cf ++ (iw_ws a4 cI 4 kf ++ (jw_ws mb2 cJ 4 ky ++ (jw_ws a3 cJ 16 lf ++ (iw_ws a5 cI 4 sf ++ (iw_ws a6 cI 64 vf ++ (jw_ws mb3 cJ 128 md ++ (jw_ws mb4 cJ 4 sh ++ iw_ws mb5 cI 64 ct))))))))))))))))))))))))))) (cx := (jw_ws out cJ 1 of ++ (bb_ws b0 bd0 pr0 t0 au0 da (.ref g0) ++ bd_ws bd0 h0 ro lo n cR (rrf rb) (rrf lb)))) (wr := (rw_ws da cJ (r8 d0 d1 d2 d3 d4 d5 d6 d7) ++ (pr_ws pr0 h0 cm cJ ccf ++ (ha_ws h0 aw ax ay cJ cI w csc cst cL ++ (tt_ws t0 ka aa ba sa (.ref g0) cJ T ++ (au_ws au0 bd0 pr0 tu0 sd ++ (tt_ws tu0 uka uaa uba usa gu cJ T0 ++ (gp_ws g0 mF mE P f1 k1 Q f2 k2 G ++ (mo_ws m0 e0 (nI (t_tn T)) (nI n) (nI (t_bc T)) (lN P) (lN Q) (lN G) (lN (ckey (t_tn T) (t_kc T) (t_kp T))) (lN (t_pa T)) (lN (t_pb T)) (t_sht T) a0 a1 a2 a3 a4 a5 a6 a7 a8 a9 mb0 mb1 oc mb2 mb3 mb4 mb5 ++ (iw_ws a7 cI 256 bf ++ (iw_ws a8 cI 64 sc ++ (iw_ws a9 cI 8 st ++ (iw_ws mb0 cI 8 kS ++ (iw_ws mb1 cI 64 kR ++ (jw_ws a2 cJ 4 tf ++ (jw_ws a0 cJ 1232 nf ++ (jw_ws a1 cJ 616 cf ++ (iw_ws a4 cI 4 kf ++ (jw_ws mb2 cJ 4 ky ++ (jw_ws a3 cJ 16 lf ++ (iw_ws a5 cI 4 sf ++ (iw_ws a6 cI 64 vf ++ (jw_ws mb3 cJ 128 md ++ (jw_ws mb4 cJ 4 sh ++ iw_ws mb5 cI 64 ct)))))))))))))))))))))))) (rx := (jw_ws out cJ 1 (vp_updL of 0 (R u9.1 u9.2)) ++ (bb_ws b0 bd0 pr0 t0 au0 da (.ref g0) ++ bd_ws bd0 h0 ro lo n cR (rrf rb) (rrf lb)))) (pl := bpool rb lb cJ R Lk) (pl1 := bpool rb lb cJ R Lk) hP hD [0, 1, 3, 4, 5] [2, 6, 7, 8, 9, 10, 11, 12, 13, 14, 15, 16, 17, 18, 19, 20, 21, 22, 23, 24, 25, 26, 27, 28, 29, 30, 31, 32, 33, 34, 35, 36, 37, 38, 39, 40, 41, 42] rfl rfl (by decide) (by decide) hk1 hFc hP1 hD1
    have hP := hP.part (cx := (jw_ws out cJ 1 (vp_updL of 0 (R u9.1 u9.2)) ++ (bb_ws b0 bd0 pr0 t0 au0 da (.ref g0) ++ (rw_ws da cJ (r8 d0 d1 d2 d3 d4 d5 d6 d7) ++ (bd_ws bd0 h0 ro lo n cR (rrf rb) (rrf lb) ++ (pr_ws pr0 h0 cm cJ ccf ++ (ha_ws h0 aw ax ay cJ cI w csc cst cL ++ (tt_ws t0 ka aa ba sa (.ref g0) cJ T ++ (au_ws au0 bd0 pr0 tu0 sd ++ (tt_ws tu0 uka uaa uba usa gu cJ T0 ++ (gp_ws g0 mF mE P f1 k1 Q f2 k2 G ++ (mo_ws m0 e0 (nI (t_tn T)) (nI n) (nI (t_bc T)) (lN P) (lN Q) (lN G) (lN (ckey (t_tn T) (t_kc T) (t_kp T))) (lN (t_pa T)) (lN (t_pb T)) (t_sht T) a0 a1 a2 a3 a4 a5 a6 a7 a8 a9 mb0 mb1 oc mb2 mb3 mb4 mb5 ++ (iw_ws a7 cI 256 bf ++ (iw_ws a8 cI 64 sc ++ (iw_ws a9 cI 8 st ++ (iw_ws mb0 cI 8 kS ++ (iw_ws mb1 cI 64 kR ++ (jw_ws a2 cJ 4 tf ++ (jw_ws a0 cJ 1232 nf ++ (jw_ws a1 cJ 616 cf ++ (iw_ws a4 cI 4 kf ++ (jw_ws mb2 cJ 4 ky ++ (jw_ws a3 cJ 16 lf ++ (iw_ws a5 cI 4 sf ++ (iw_ws a6 cI 64 vf ++ (jw_ws mb3 cJ 128 md ++ (jw_ws mb4 cJ 4 sh ++ iw_ws mb5 cI 64 ct))))))))))))))))))))))))))) [38, 39, 0, 40, 41, 42, 1, 2, 3, 4, 5, 6, 7, 8, 9, 10, 11, 12, 13, 14, 15, 16, 17, 18, 19, 20, 21, 22, 23, 24, 25, 26, 27, 28, 29, 30, 31, 32, 33, 34, 35, 36, 37] rfl
    have hD := hD.part (cx := (jw_ws out cJ 1 (vp_updL of 0 (R u9.1 u9.2)) ++ (bb_ws b0 bd0 pr0 t0 au0 da (.ref g0) ++ (rw_ws da cJ (r8 d0 d1 d2 d3 d4 d5 d6 d7) ++ (bd_ws bd0 h0 ro lo n cR (rrf rb) (rrf lb) ++ (pr_ws pr0 h0 cm cJ ccf ++ (ha_ws h0 aw ax ay cJ cI w csc cst cL ++ (tt_ws t0 ka aa ba sa (.ref g0) cJ T ++ (au_ws au0 bd0 pr0 tu0 sd ++ (tt_ws tu0 uka uaa uba usa gu cJ T0 ++ (gp_ws g0 mF mE P f1 k1 Q f2 k2 G ++ (mo_ws m0 e0 (nI (t_tn T)) (nI n) (nI (t_bc T)) (lN P) (lN Q) (lN G) (lN (ckey (t_tn T) (t_kc T) (t_kp T))) (lN (t_pa T)) (lN (t_pb T)) (t_sht T) a0 a1 a2 a3 a4 a5 a6 a7 a8 a9 mb0 mb1 oc mb2 mb3 mb4 mb5 ++ (iw_ws a7 cI 256 bf ++ (iw_ws a8 cI 64 sc ++ (iw_ws a9 cI 8 st ++ (iw_ws mb0 cI 8 kS ++ (iw_ws mb1 cI 64 kR ++ (jw_ws a2 cJ 4 tf ++ (jw_ws a0 cJ 1232 nf ++ (jw_ws a1 cJ 616 cf ++ (iw_ws a4 cI 4 kf ++ (jw_ws mb2 cJ 4 ky ++ (jw_ws a3 cJ 16 lf ++ (iw_ws a5 cI 4 sf ++ (iw_ws a6 cI 64 vf ++ (jw_ws mb3 cJ 128 md ++ (jw_ws mb4 cJ 4 sh ++ iw_ws mb5 cI 64 ct))))))))))))))))))))))))))) [38, 39, 0, 40, 41, 42, 1, 2, 3, 4, 5, 6, 7, 8, 9, 10, 11, 12, 13, 14, 15, 16, 17, 18, 19, 20, 21, 22, 23, 24, 25, 26, 27, 28, 29, 30, 31, 32, 33, 34, 35, 36, 37] (by decide) rfl
    generalize H1 = H at hP hS ⊢
    clear hPc hDc hFc hP1 hD1 hK1 ht hk1 hz1
    have hr9 : r_1 = 0 := hw.1
    subst hr9
    have hw := hw.2
    obtain ⟨hxk, hk, hxJ, hJ⟩ := hw
    refine lv_istore (lv' := [(5, .int 0), (4, .int (nI i)), (3, .ref out), (2, .ref m0), (1, .ref b0), (0, .ref b)]) hx hb d_law_1638 hl (by decide) rfl (fun ls hl => ?_)
    refine lv_aload_n hx hb d_law_1640 rfl (lv_at hl 3 rfl) ?_
    refine lv_aload_n hx hb d_law_1641 rfl (lv_at hl 5 rfl) ?_
    refine lv_iload hx hb d_law_1642 (lv_at hl 1 rfl) ?_
    refine lv_iconst (v := 1) hx hb d_law_1644 (by decide) ?_
    refine lv_iadd hx hb d_law_1645 ?_
    rw [show ((nI i) + 1 : Int32) = nI (i + 1) from nI_add _ 1]
    refine va_sld hx hb hX hbl hbA hS (vp_in_nI (by omega) (by omega)) d_law_1646 ?_
    rw [show (xs (nI (i + 1)).toNatClampNeg : Int32) = xs (i + 1) from by rw [nI_clamp (by omega)]]
    rw [show (xs (i + 1) : Int32) = nI u9.1 from (hx1.symm.trans hxk)]
    refine lv_aload_n hx hb d_law_1647 rfl (lv_at hl 5 rfl) ?_
    refine lv_iload hx hb d_law_1648 (lv_at hl 1 rfl) ?_
    refine lv_iconst (v := 2) hx hb d_law_1650 (by decide) ?_
    refine lv_iadd hx hb d_law_1651 ?_
    rw [show ((nI i) + 2 : Int32) = nI (i + 2) from nI_add _ 2]
    refine va_sld hx hb hX hbl hbA hS (vp_in_nI (by omega) (by omega)) d_law_1652 ?_
    rw [show (xs (nI (i + 2)).toNatClampNeg : Int32) = xs (i + 2) from by rw [nI_clamp (by omega)]]
    rw [show (xs (i + 2) : Int32) = nI u9.2 from (hx2.symm.trans hxJ)]
    have hPc := hP.sub (ws' := (mo_ws m0 e0 (nI (t_tn T)) (nI n) (nI (t_bc T)) (lN P) (lN Q) (lN G) (lN (ckey (t_tn T) (t_kc T) (t_kp T))) (lN (t_pa T)) (lN (t_pb T)) (t_sht T) a0 a1 a2 a3 a4 a5 a6 a7 a8 a9 mb0 mb1 oc mb2 mb3 mb4 mb5 ++ jw_ws a0 cJ 1232 nf)) [26, 33] rfl
    have hDc := hD.sub (ws' := (mo_ws m0 e0 (nI (t_tn T)) (nI n) (nI (t_bc T)) (lN P) (lN Q) (lN G) (lN (ckey (t_tn T) (t_kc T) (t_kp T))) (lN (t_pa T)) (lN (t_pb T)) (t_sht T) a0 a1 a2 a3 a4 a5 a6 a7 a8 a9 mb0 mb1 oc mb2 mb3 mb4 mb5 ++ jw_ws a0 cJ 1232 nf)) [26, 33] (by decide) rfl
    have hKc := hK.sub (tys' := [(cJ, .long), (cI, .int)]) [0, 1] rfl
    have hFc := va_free (wc := (mo_ws m0 e0 (nI (t_tn T)) (nI n) (nI (t_bc T)) (lN P) (lN Q) (lN G) (lN (ckey (t_tn T) (t_kc T) (t_kp T))) (lN (t_pa T)) (lN (t_pb T)) (t_sht T) a0 a1 a2 a3 a4 a5 a6 a7 a8 a9 mb0 mb1 oc mb2 mb3 mb4 mb5 ++ jw_ws a0 cJ 1232 nf)) hD hS hA [26, 33] rfl
    refine va_calll (va_runV (As := [.int (nI u9.1), .int (nI u9.2)]) (rest := []) ⟨hx, hb, hml, hown, hts⟩ (c_Bm_entry_0 l dC dI cJ cI H.size m0 e0 (t_tn T) n (t_bc T) P Q G (ckey (t_tn T) (t_kc T) (t_kp T)) (t_pa T) (t_pb T) (t_sht T) a0 a1 a2 a3 a4 a5 a6 a7 a8 a9 mb0 mb1 oc mb2 mb3 mb4 mb5 nf kd u9.1 u9.2 hn hnfk hk hJ) (cwV 2 hts (gw_V gk_1178 gk_1179 gk_1180 gk_7 gk_1181) rfl rfl rfl (by decide +kernel) ⟨(Nat.le_of_ble_eq_true rfl), (Nat.le_of_ble_eq_true rfl)⟩) ⟨fun a U g mk q => by obtain ⟨q0, q1, qP, qK, qD⟩ := q; exact ⟨q0, q1, qP, va_K.moved (u := U) (U := U.calling g mk a) (Vm.Alike.refl U.vm) qK, qD⟩, va_recv hK hP (ci := 8) (q0 := 26) rfl rfl, fun U hU hW => ⟨rfl, by rw [hU], by rw [hU]; exact hPc, va_K.moved hW.alike hKc, hDc.weaken (fun _ _ _ _ => trivial)⟩⟩ rfl rfl hl.1 rfl (lv_room (Nat.le_of_ble_eq_true rfl)) d_law_1653 ⟨show cells + 8 + 0 ≤ 601024 by omega, show slots + 48 + 0 ≤ 7293034 by omega⟩) hS (fun q _ h => hFc q h) hFc (fun r_2 v9 t9 H1 locs ht hvm hw hB hz1 hk1 hS => ?_)
    obtain ⟨hP1, hK1, hD1⟩ := hB
    rw [ht] at hP1
    obtain ⟨hP, hD⟩ := va_joinQ (X := (jw_ws out cJ 1 (vp_updL of 0 (R u9.1 u9.2)) ++ (bb_ws b0 bd0 pr0 t0 au0 da (.ref g0) ++ (rw_ws da cJ (r8 d0 d1 d2 d3 d4 d5 d6 d7) ++ (bd_ws bd0 h0 ro lo n cR (rrf rb) (rrf lb) ++ (pr_ws pr0 h0 cm cJ ccf ++ (ha_ws h0 aw ax ay cJ cI w csc cst cL ++ (tt_ws t0 ka aa ba sa (.ref g0) cJ T ++ (au_ws au0 bd0 pr0 tu0 sd ++ (tt_ws tu0 uka uaa uba usa gu cJ T0 ++ (gp_ws g0 mF mE P f1 k1 Q f2 k2 G ++ (mo_ws m0 e0 (nI (t_tn T)) (nI n) (nI (t_bc T)) (lN P) (lN Q) (lN G) (lN (ckey (t_tn T) (t_kc T) (t_kp T))) (lN (t_pa T)) (lN (t_pb T)) (t_sht T) a0 a1 a2 a3 a4 a5 a6 a7 a8 a9 mb0 mb1 oc mb2 mb3 mb4 mb5 ++ (iw_ws a7 cI 256 bf ++ (iw_ws a8 cI 64 sc ++ (iw_ws a9 cI 8 st ++ (iw_ws mb0 cI 8 kS ++ (iw_ws mb1 cI 64 kR ++ (jw_ws a2 cJ 4 tf ++ (jw_ws a0 cJ 1232 nf ++ (jw_ws a1 cJ 616 cf ++ (iw_ws a4 cI 4 kf ++ (jw_ws mb2 cJ 4 ky ++ (jw_ws a3 cJ 16 lf ++ (iw_ws a5 cI 4 sf ++ (iw_ws a6 cI 64 vf ++ (jw_ws mb3 cJ 128 md ++ (jw_ws mb4 cJ 4 sh ++ iw_ws mb5 cI 64 ct))))))))))))))))))))))))))) (cx := (mo_ws m0 e0 (nI (t_tn T)) (nI n) (nI (t_bc T)) (lN P) (lN Q) (lN G) (lN (ckey (t_tn T) (t_kc T) (t_kp T))) (lN (t_pa T)) (lN (t_pb T)) (t_sht T) a0 a1 a2 a3 a4 a5 a6 a7 a8 a9 mb0 mb1 oc mb2 mb3 mb4 mb5 ++ jw_ws a0 cJ 1232 nf)) (wr := (jw_ws out cJ 1 (vp_updL of 0 (R u9.1 u9.2)) ++ (bb_ws b0 bd0 pr0 t0 au0 da (.ref g0) ++ (rw_ws da cJ (r8 d0 d1 d2 d3 d4 d5 d6 d7) ++ (bd_ws bd0 h0 ro lo n cR (rrf rb) (rrf lb) ++ (pr_ws pr0 h0 cm cJ ccf ++ (ha_ws h0 aw ax ay cJ cI w csc cst cL ++ (tt_ws t0 ka aa ba sa (.ref g0) cJ T ++ (au_ws au0 bd0 pr0 tu0 sd ++ (tt_ws tu0 uka uaa uba usa gu cJ T0 ++ (gp_ws g0 mF mE P f1 k1 Q f2 k2 G ++ (iw_ws a7 cI 256 bf ++ (iw_ws a8 cI 64 sc ++ (iw_ws a9 cI 8 st ++ (iw_ws mb0 cI 8 kS ++ (iw_ws mb1 cI 64 kR ++ (jw_ws a2 cJ 4 tf ++ (jw_ws a1 cJ 616 cf ++ (iw_ws a4 cI 4 kf ++ (jw_ws mb2 cJ 4 ky ++ (jw_ws a3 cJ 16 lf ++ (iw_ws a5 cI 4 sf ++ (iw_ws a6 cI 64 vf ++ (jw_ws mb3 cJ 128 md ++ (jw_ws mb4 cJ 4 sh ++ iw_ws mb5 cI 64 ct))))))))))))))))))))))))) (w1 := (mo_ws m0 0 (nI (t_tn T)) (nI n) (nI (t_bc T)) (lN P) (lN Q) (lN G) (lN (ckey (t_tn T) (t_kc T) (t_kp T))) (lN (t_pa T)) (lN (t_pb T)) (t_sht T) a0 a1 a2 a3 a4 a5 a6 a7 a8 a9 mb0 mb1 oc mb2 mb3 mb4 mb5 ++ jw_ws a0 cJ 1232 nf)) (pl := bpool rb lb cJ R Lk) hP hD [26, 33] [0, 1, 2, 3, 4, 5, 6, 7, 8, 9, 10, 11, 12, 13, 14, 15, 16, 17, 18, 19, 20, 21, 22, 23, 24, 25, 27, 28, 29, 30, 31, 32, 34, 35, 36, 37, 38, 39, 40, 41, 42] rfl rfl (by decide) (by decide) hk1 hFc hP1 hD1
    have hP := hP.part (cx := (jw_ws out cJ 1 (vp_updL of 0 (R u9.1 u9.2)) ++ (bb_ws b0 bd0 pr0 t0 au0 da (.ref g0) ++ (rw_ws da cJ (r8 d0 d1 d2 d3 d4 d5 d6 d7) ++ (bd_ws bd0 h0 ro lo n cR (rrf rb) (rrf lb) ++ (pr_ws pr0 h0 cm cJ ccf ++ (ha_ws h0 aw ax ay cJ cI w csc cst cL ++ (tt_ws t0 ka aa ba sa (.ref g0) cJ T ++ (au_ws au0 bd0 pr0 tu0 sd ++ (tt_ws tu0 uka uaa uba usa gu cJ T0 ++ (gp_ws g0 mF mE P f1 k1 Q f2 k2 G ++ (mo_ws m0 0 (nI (t_tn T)) (nI n) (nI (t_bc T)) (lN P) (lN Q) (lN G) (lN (ckey (t_tn T) (t_kc T) (t_kp T))) (lN (t_pa T)) (lN (t_pb T)) (t_sht T) a0 a1 a2 a3 a4 a5 a6 a7 a8 a9 mb0 mb1 oc mb2 mb3 mb4 mb5 ++ (iw_ws a7 cI 256 bf ++ (iw_ws a8 cI 64 sc ++ (iw_ws a9 cI 8 st ++ (iw_ws mb0 cI 8 kS ++ (iw_ws mb1 cI 64 kR ++ (jw_ws a2 cJ 4 tf ++ (jw_ws a0 cJ 1232 nf ++ (jw_ws a1 cJ 616 cf ++ (iw_ws a4 cI 4 kf ++ (jw_ws mb2 cJ 4 ky ++ (jw_ws a3 cJ 16 lf ++ (iw_ws a5 cI 4 sf ++ (iw_ws a6 cI 64 vf ++ (jw_ws mb3 cJ 128 md ++ (jw_ws mb4 cJ 4 sh ++ iw_ws mb5 cI 64 ct))))))))))))))))))))))))))) [0, 1, 2, 3, 4, 5, 6, 7, 8, 9, 10, 11, 12, 13, 14, 15, 16, 17, 18, 19, 20, 21, 22, 23, 24, 25, 41, 26, 27, 28, 29, 30, 31, 42, 32, 33, 34, 35, 36, 37, 38, 39, 40] rfl
    have hD := hD.part (cx := (jw_ws out cJ 1 (vp_updL of 0 (R u9.1 u9.2)) ++ (bb_ws b0 bd0 pr0 t0 au0 da (.ref g0) ++ (rw_ws da cJ (r8 d0 d1 d2 d3 d4 d5 d6 d7) ++ (bd_ws bd0 h0 ro lo n cR (rrf rb) (rrf lb) ++ (pr_ws pr0 h0 cm cJ ccf ++ (ha_ws h0 aw ax ay cJ cI w csc cst cL ++ (tt_ws t0 ka aa ba sa (.ref g0) cJ T ++ (au_ws au0 bd0 pr0 tu0 sd ++ (tt_ws tu0 uka uaa uba usa gu cJ T0 ++ (gp_ws g0 mF mE P f1 k1 Q f2 k2 G ++ (mo_ws m0 0 (nI (t_tn T)) (nI n) (nI (t_bc T)) (lN P) (lN Q) (lN G) (lN (ckey (t_tn T) (t_kc T) (t_kp T))) (lN (t_pa T)) (lN (t_pb T)) (t_sht T) a0 a1 a2 a3 a4 a5 a6 a7 a8 a9 mb0 mb1 oc mb2 mb3 mb4 mb5 ++ (iw_ws a7 cI 256 bf ++ (iw_ws a8 cI 64 sc ++ (iw_ws a9 cI 8 st ++ (iw_ws mb0 cI 8 kS ++ (iw_ws mb1 cI 64 kR ++ (jw_ws a2 cJ 4 tf ++ (jw_ws a0 cJ 1232 nf ++ (jw_ws a1 cJ 616 cf ++ (iw_ws a4 cI 4 kf ++ (jw_ws mb2 cJ 4 ky ++ (jw_ws a3 cJ 16 lf ++ (iw_ws a5 cI 4 sf ++ (iw_ws a6 cI 64 vf ++ (jw_ws mb3 cJ 128 md ++ (jw_ws mb4 cJ 4 sh ++ iw_ws mb5 cI 64 ct))))))))))))))))))))))))))) [0, 1, 2, 3, 4, 5, 6, 7, 8, 9, 10, 11, 12, 13, 14, 15, 16, 17, 18, 19, 20, 21, 22, 23, 24, 25, 41, 26, 27, 28, 29, 30, 31, 42, 32, 33, 34, 35, 36, 37, 38, 39, 40] (by decide) rfl
    generalize H1 = H at hP hS ⊢
    clear hPc hDc hFc hP1 hD1 hK1 ht hk1 hz1
    have hr8 := hw
    subst hr8
    refine lv_lstore (lv' := [(6, .long (nf (8 * u9.1 + u9.2))), (5, .int 0), (4, .int (nI i)), (3, .ref out), (2, .ref m0), (1, .ref b0), (0, .ref b)]) hx hb d_law_1656 hl (by decide) rfl (fun ls hl => ?_)
    refine lv_aload_n hx hb d_law_1658 rfl (lv_at hl 4 rfl) ?_
    have hPc := hP.sub (ws' := (mo_ws m0 0 (nI (t_tn T)) (nI n) (nI (t_bc T)) (lN P) (lN Q) (lN G) (lN (ckey (t_tn T) (t_kc T) (t_kp T))) (lN (t_pa T)) (lN (t_pb T)) (t_sht T) a0 a1 a2 a3 a4 a5 a6 a7 a8 a9 mb0 mb1 oc mb2 mb3 mb4 mb5)) [26] rfl
    have hKc := hK.sub (tys' := [(cJ, .long), (cI, .int)]) [0, 1] rfl
    refine va_calli (va_runV (As := []) (rest := []) ⟨hx, hb, hml, hown, hts⟩ (c_Bm_thrown l H dC dI cJ cI m0 0 (nI (t_tn T)) (nI n) (nI (t_bc T)) (lN P) (lN Q) (lN G) (lN (ckey (t_tn T) (t_kc T) (t_kp T))) (lN (t_pa T)) (lN (t_pb T)) (t_sht T) a0 a1 a2 a3 a4 a5 a6 a7 a8 a9 mb0 mb1 oc mb2 mb3 mb4 mb5 hPc) (cwV 0 hts (gw_V gk_1004 gk_1005 gk_1006 gk_7 gk_1007) rfl rfl rfl (by decide +kernel) ⟨(Nat.le_of_ble_eq_true rfl), (Nat.le_of_ble_eq_true rfl)⟩) ⟨fun a U g mk q => ⟨q.1, q.2.1, va_K.moved (u := U) (U := U.calling g mk a) (Vm.Alike.refl U.vm) q.2.2⟩, va_recv hK hP (ci := 8) (q0 := 26) rfl rfl, fun U hU hW => ⟨rfl, hU, va_K.moved hW.alike hKc⟩⟩ rfl rfl hl.1 rfl (lv_room (Nat.le_of_ble_eq_true rfl)) d_law_1659 ⟨show cells + 8 + 0 + 0 ≤ 601024 by omega, show slots + 48 + 0 + 0 ≤ 7293034 by omega⟩) hS (fun q _ h => h.elim) (fun q h => h.elim) (fun r_3 w9 t9 H1 locs ht hvm hw9 hB hz1 hk1 hS => ?_)
    obtain rfl : H = H1 := hB.symm.trans ht
    have hw9 : r_3 = 0 := hw9
    subst hw9
    clear hPc hz1 hk1 hB
    refine lv_iload hx hb d_law_1662 (lv_at hl 1 rfl) ?_
    refine lv_icmp_eq (tgt := 1669) hx hb d_law_1664 (by decide) (fun c_4 => ?_) (fun c_4 => ?_)
    · -- taken
      refine lv_iload hx hb d_law_1669 (lv_at hl 1 rfl) ?_
      refine lv_if_ne (tgt := 1685) hx hb d_law_1671 (by decide) (fun c_5 => ?_) (fun c_5 => ?_)
      · -- taken
        exact absurd rfl c_5
      · -- not taken
        refine lv_aload_n hx hb d_law_1674 rfl (lv_at hl 3 rfl) ?_
        refine lv_iconst (v := 0) hx hb d_law_1675 (by decide) ?_
        refine va_lald hx hb hK hP 0 0 rfl rfl (vp_lit rfl) d_law_1676 ?_
        refine lv_topl (fun v_6 ev_6 => ?_)
        obtain rfl : v_6 = R u9.1 u9.2 := ev_6.trans rfl
        refine lv_lload hx hb d_law_1677 (lv_at hl 0 rfl) ?_
        refine W.lcmp hx hb d_law_1679 ?_
        refine lv_if_eq (tgt := 1685) hx hb d_law_1680 (by decide) (fun c_7 => ?_) (fun c_7 => ?_)
        · -- taken
          refine lv_goto (tgt := 1965) hx hb d_law_1685 (by decide) ?_
          refine W.widen (k := cells + 20) (n := slots + 200) (by omega) (by omega) ?_
          have hI9 : LI dC dI cJ cI cR A out b0 m0 H := LG.mk hP hD hR
          exact cont _ _ _ hS hI9 (lv_sub hl [2, 3, 4, 5, 6] rfl)
        · -- not taken
          exact absurd (lgc (hnfR _ hk _ hJ).symm) c_7
    · -- not taken
      exact absurd c_4 (by decide)
  refine lv_aload_n hx hb d_law_1621 rfl (lv_at hl 3 rfl) ?_
  refine lv_aload_n hx hb d_law_1622 rfl (lv_at hl 4 rfl) ?_
  refine lv_iload hx hb d_law_1623 (lv_at hl 0 rfl) ?_
  refine lv_iconst (v := 1) hx hb d_law_1625 (by decide) ?_
  refine lv_iadd hx hb d_law_1626 ?_
  rw [show ((nI i) + 1 : Int32) = nI (i + 1) from nI_add _ 1]
  refine va_sld hx hb hX hbl hbA hS (vp_in_nI (by omega) (by omega)) d_law_1627 ?_
  rw [show (xs (nI (i + 1)).toNatClampNeg : Int32) = xs (i + 1) from by rw [nI_clamp (by omega)]]
  rw [show (xs (i + 1) : Int32) = x1 from hx1.symm]
  refine lv_aload_n hx hb d_law_1628 rfl (lv_at hl 4 rfl) ?_
  refine lv_iload hx hb d_law_1629 (lv_at hl 0 rfl) ?_
  refine lv_iconst (v := 2) hx hb d_law_1631 (by decide) ?_
  refine lv_iadd hx hb d_law_1632 ?_
  rw [show ((nI i) + 2 : Int32) = nI (i + 2) from nI_add _ 2]
  refine va_sld hx hb hX hbl hbA hS (vp_in_nI (by omega) (by omega)) d_law_1633 ?_
  rw [show (xs (nI (i + 2)).toNatClampNeg : Int32) = xs (i + 2) from by rw [nI_clamp (by omega)]]
  rw [show (xs (i + 2) : Int32) = x2 from hx2.symm]
  refine lv_aload_n hx hb d_law_1634 rfl (lv_at hl 1 rfl) ?_
  have hPc := hP.part (cx := (jw_ws out cJ 1 of ++ (bb_ws b0 bd0 pr0 t0 au0 da (.ref g0) ++ bd_ws bd0 h0 ro lo n cR (rrf rb) (rrf lb)))) [0, 1, 3, 4, 5] rfl
  have hDc := hD.part (cx := (jw_ws out cJ 1 of ++ (bb_ws b0 bd0 pr0 t0 au0 da (.ref g0) ++ bd_ws bd0 h0 ro lo n cR (rrf rb) (rrf lb)))) [0, 1, 3, 4, 5] (by decide) rfl
  have hKc := hK.sub (tys' := [(cJ, .long), (cI, .int), (cR, .array .long)]) [0, 1, 2] rfl
  have hFc := va_freeP (cx := (jw_ws out cJ 1 of ++ (bb_ws b0 bd0 pr0 t0 au0 da (.ref g0) ++ bd_ws bd0 h0 ro lo n cR (rrf rb) (rrf lb)))) hD hS hA [0, 1, 3, 4, 5] rfl
  have hZc0 : xz (va_A ((jw_ws out cJ 1 of ++ (bb_ws b0 bd0 pr0 t0 au0 da (.ref g0) ++ bd_ws bd0 h0 ro lo n cR (rrf rb) (rrf lb))) ++ bpool rb lb cJ R Lk) H.size) s H := (hZx.kept hS.2.1).narrow hFc
  have hZc1 : nc_Z s := hZn
  refine vx_calli (vx_runSX (hh := h_Lw_entry) (As := [.ref b0, .int x1, .int x2, .ref out]) (rest := []) ⟨hx, hb, hml, hown, hts⟩ (c_Lw_entry_1 l hnt dC dI cJ cI cR H.size b0 bd0 pr0 t0 au0 da (.ref g0) h0 ro lo n rb lb (t_tn T) kd wh R Lk x1 x2 out of hwf hC) (vx_cwSW 4 hts (gw_Sv gk_751 gk_752 gk_0 gk_753) rfl rfl rfl (by decide +kernel) ⟨(Nat.le_of_ble_eq_true rfl), (Nat.le_of_ble_eq_true rfl)⟩) ⟨fun a U g mk q => by obtain ⟨q0, q1, qP, qK, qD, qZ0, qZ1⟩ := q; exact ⟨q0, q1, qP, va_K.moved (u := U) (U := U.calling g mk a) (Vm.Alike.refl U.vm) qK, qD, xz.same (u := U) (U := U.calling g mk a) rfl qZ0, nc_Z.moved (u := U) (U := U.calling g mk a) (Vm.Alike.refl U.vm) qZ1⟩, fun U hU hW => ⟨rfl, by rw [hU], by rw [hU]; exact hPc, va_K.moved hW.alike hKc, hDc.weaken (fun _ _ _ _ => trivial), by rw [hU]; exact xz.warm hW hZc0, nc_Z.moved hW.alike hZc1⟩⟩ rfl rfl hl.1 rfl (lv_room (Nat.le_of_ble_eq_true rfl)) d_law_1635 ⟨show cells + 8 ≤ 601024 by omega, show slots + 48 ≤ 7293034 by omega⟩) hS (fun q _ h => hFc q h) hFc (fun q _ h => hFc q h) (fun E9 ce9 q9 u8 t9 H1 locs ht hvm hpx hbx hz1 hk1 hS hce hcv hcl => hpx.elim) (fun r_8 u9 t9 H1 locs ht hvm hw hB hz1 hk1 hS => ?_)
  obtain ⟨hP1, hK1, hD1⟩ := hB
  rw [ht] at hP1
  obtain ⟨hP, hD⟩ := va_joinP (X := (jw_ws out cJ 1 of ++ (bb_ws b0 bd0 pr0 t0 au0 da (.ref g0) ++ (rw_ws da cJ (r8 d0 d1 d2 d3 d4 d5 d6 d7) ++ (bd_ws bd0 h0 ro lo n cR (rrf rb) (rrf lb) ++ (pr_ws pr0 h0 cm cJ ccf ++ (ha_ws h0 aw ax ay cJ cI w csc cst cL ++ (tt_ws t0 ka aa ba sa (.ref g0) cJ T ++ (au_ws au0 bd0 pr0 tu0 sd ++ (tt_ws tu0 uka uaa uba usa gu cJ T0 ++ (gp_ws g0 mF mE P f1 k1 Q f2 k2 G ++ (mo_ws m0 e0 (nI (t_tn T)) (nI n) (nI (t_bc T)) (lN P) (lN Q) (lN G) (lN (ckey (t_tn T) (t_kc T) (t_kp T))) (lN (t_pa T)) (lN (t_pb T)) (t_sht T) a0 a1 a2 a3 a4 a5 a6 a7 a8 a9 mb0 mb1 oc mb2 mb3 mb4 mb5 ++ (iw_ws a7 cI 256 bf ++ (iw_ws a8 cI 64 sc ++ (iw_ws a9 cI 8 st ++ (iw_ws mb0 cI 8 kS ++ (iw_ws mb1 cI 64 kR ++ (jw_ws a2 cJ 4 tf ++ (jw_ws a0 cJ 1232 nf ++ (jw_ws a1 cJ 616 cf ++ (iw_ws a4 cI 4 kf ++ (jw_ws mb2 cJ 4 ky ++ (jw_ws a3 cJ 16 lf ++ (iw_ws a5 cI 4 sf ++ (iw_ws a6 cI 64 vf ++ (jw_ws mb3 cJ 128 md ++ (jw_ws mb4 cJ 4 sh ++ iw_ws mb5 cI 64 ct))))))))))))))))))))))))))) (cx := (jw_ws out cJ 1 of ++ (bb_ws b0 bd0 pr0 t0 au0 da (.ref g0) ++ bd_ws bd0 h0 ro lo n cR (rrf rb) (rrf lb)))) (wr := (rw_ws da cJ (r8 d0 d1 d2 d3 d4 d5 d6 d7) ++ (pr_ws pr0 h0 cm cJ ccf ++ (ha_ws h0 aw ax ay cJ cI w csc cst cL ++ (tt_ws t0 ka aa ba sa (.ref g0) cJ T ++ (au_ws au0 bd0 pr0 tu0 sd ++ (tt_ws tu0 uka uaa uba usa gu cJ T0 ++ (gp_ws g0 mF mE P f1 k1 Q f2 k2 G ++ (mo_ws m0 e0 (nI (t_tn T)) (nI n) (nI (t_bc T)) (lN P) (lN Q) (lN G) (lN (ckey (t_tn T) (t_kc T) (t_kp T))) (lN (t_pa T)) (lN (t_pb T)) (t_sht T) a0 a1 a2 a3 a4 a5 a6 a7 a8 a9 mb0 mb1 oc mb2 mb3 mb4 mb5 ++ (iw_ws a7 cI 256 bf ++ (iw_ws a8 cI 64 sc ++ (iw_ws a9 cI 8 st ++ (iw_ws mb0 cI 8 kS ++ (iw_ws mb1 cI 64 kR ++ (jw_ws a2 cJ 4 tf ++ (jw_ws a0 cJ 1232 nf ++ (jw_ws a1 cJ 616 cf ++ (iw_ws a4 cI 4 kf ++ (jw_ws mb2 cJ 4 ky ++ (jw_ws a3 cJ 16 lf ++ (iw_ws a5 cI 4 sf ++ (iw_ws a6 cI 64 vf ++ (jw_ws mb3 cJ 128 md ++ (jw_ws mb4 cJ 4 sh ++ iw_ws mb5 cI 64 ct)))))))))))))))))))))))) (rx := (jw_ws out cJ 1 of ++ (bb_ws b0 bd0 pr0 t0 au0 da (.ref g0) ++ bd_ws bd0 h0 ro lo n cR (rrf rb) (rrf lb)))) (pl := bpool rb lb cJ R Lk) (pl1 := bpool rb lb cJ R Lk) hP hD [0, 1, 3, 4, 5] [2, 6, 7, 8, 9, 10, 11, 12, 13, 14, 15, 16, 17, 18, 19, 20, 21, 22, 23, 24, 25, 26, 27, 28, 29, 30, 31, 32, 33, 34, 35, 36, 37, 38, 39, 40, 41, 42] rfl rfl (by decide) (by decide) hk1 hFc hP1 hD1
  have hP := hP.part (cx := (jw_ws out cJ 1 of ++ (bb_ws b0 bd0 pr0 t0 au0 da (.ref g0) ++ (rw_ws da cJ (r8 d0 d1 d2 d3 d4 d5 d6 d7) ++ (bd_ws bd0 h0 ro lo n cR (rrf rb) (rrf lb) ++ (pr_ws pr0 h0 cm cJ ccf ++ (ha_ws h0 aw ax ay cJ cI w csc cst cL ++ (tt_ws t0 ka aa ba sa (.ref g0) cJ T ++ (au_ws au0 bd0 pr0 tu0 sd ++ (tt_ws tu0 uka uaa uba usa gu cJ T0 ++ (gp_ws g0 mF mE P f1 k1 Q f2 k2 G ++ (mo_ws m0 e0 (nI (t_tn T)) (nI n) (nI (t_bc T)) (lN P) (lN Q) (lN G) (lN (ckey (t_tn T) (t_kc T) (t_kp T))) (lN (t_pa T)) (lN (t_pb T)) (t_sht T) a0 a1 a2 a3 a4 a5 a6 a7 a8 a9 mb0 mb1 oc mb2 mb3 mb4 mb5 ++ (iw_ws a7 cI 256 bf ++ (iw_ws a8 cI 64 sc ++ (iw_ws a9 cI 8 st ++ (iw_ws mb0 cI 8 kS ++ (iw_ws mb1 cI 64 kR ++ (jw_ws a2 cJ 4 tf ++ (jw_ws a0 cJ 1232 nf ++ (jw_ws a1 cJ 616 cf ++ (iw_ws a4 cI 4 kf ++ (jw_ws mb2 cJ 4 ky ++ (jw_ws a3 cJ 16 lf ++ (iw_ws a5 cI 4 sf ++ (iw_ws a6 cI 64 vf ++ (jw_ws mb3 cJ 128 md ++ (jw_ws mb4 cJ 4 sh ++ iw_ws mb5 cI 64 ct))))))))))))))))))))))))))) [38, 39, 0, 40, 41, 42, 1, 2, 3, 4, 5, 6, 7, 8, 9, 10, 11, 12, 13, 14, 15, 16, 17, 18, 19, 20, 21, 22, 23, 24, 25, 26, 27, 28, 29, 30, 31, 32, 33, 34, 35, 36, 37] rfl
  have hD := hD.part (cx := (jw_ws out cJ 1 of ++ (bb_ws b0 bd0 pr0 t0 au0 da (.ref g0) ++ (rw_ws da cJ (r8 d0 d1 d2 d3 d4 d5 d6 d7) ++ (bd_ws bd0 h0 ro lo n cR (rrf rb) (rrf lb) ++ (pr_ws pr0 h0 cm cJ ccf ++ (ha_ws h0 aw ax ay cJ cI w csc cst cL ++ (tt_ws t0 ka aa ba sa (.ref g0) cJ T ++ (au_ws au0 bd0 pr0 tu0 sd ++ (tt_ws tu0 uka uaa uba usa gu cJ T0 ++ (gp_ws g0 mF mE P f1 k1 Q f2 k2 G ++ (mo_ws m0 e0 (nI (t_tn T)) (nI n) (nI (t_bc T)) (lN P) (lN Q) (lN G) (lN (ckey (t_tn T) (t_kc T) (t_kp T))) (lN (t_pa T)) (lN (t_pb T)) (t_sht T) a0 a1 a2 a3 a4 a5 a6 a7 a8 a9 mb0 mb1 oc mb2 mb3 mb4 mb5 ++ (iw_ws a7 cI 256 bf ++ (iw_ws a8 cI 64 sc ++ (iw_ws a9 cI 8 st ++ (iw_ws mb0 cI 8 kS ++ (iw_ws mb1 cI 64 kR ++ (jw_ws a2 cJ 4 tf ++ (jw_ws a0 cJ 1232 nf ++ (jw_ws a1 cJ 616 cf ++ (iw_ws a4 cI 4 kf ++ (jw_ws mb2 cJ 4 ky ++ (jw_ws a3 cJ 16 lf ++ (iw_ws a5 cI 4 sf ++ (iw_ws a6 cI 64 vf ++ (jw_ws mb3 cJ 128 md ++ (jw_ws mb4 cJ 4 sh ++ iw_ws mb5 cI 64 ct))))))))))))))))))))))))))) [38, 39, 0, 40, 41, 42, 1, 2, 3, 4, 5, 6, 7, 8, 9, 10, 11, 12, 13, 14, 15, 16, 17, 18, 19, 20, 21, 22, 23, 24, 25, 26, 27, 28, 29, 30, 31, 32, 33, 34, 35, 36, 37] (by decide) rfl
  generalize H1 = H at hP hS ⊢
  clear hPc hDc hFc hP1 hD1 hK1 ht hk1 hz1
  have hr9 : r_8 = 1 := hw
  subst hr9
  refine lv_istore (lv' := [(5, .int 1), (4, .int (nI i)), (3, .ref out), (2, .ref m0), (1, .ref b0), (0, .ref b)]) hx hb d_law_1638 hl (by decide) rfl (fun ls hl => ?_)
  refine lv_aload_n hx hb d_law_1640 rfl (lv_at hl 3 rfl) ?_
  refine lv_aload_n hx hb d_law_1641 rfl (lv_at hl 5 rfl) ?_
  refine lv_iload hx hb d_law_1642 (lv_at hl 1 rfl) ?_
  refine lv_iconst (v := 1) hx hb d_law_1644 (by decide) ?_
  refine lv_iadd hx hb d_law_1645 ?_
  rw [show ((nI i) + 1 : Int32) = nI (i + 1) from nI_add _ 1]
  refine va_sld hx hb hX hbl hbA hS (vp_in_nI (by omega) (by omega)) d_law_1646 ?_
  rw [show (xs (nI (i + 1)).toNatClampNeg : Int32) = xs (i + 1) from by rw [nI_clamp (by omega)]]
  rw [show (xs (i + 1) : Int32) = x1 from hx1.symm]
  refine lv_aload_n hx hb d_law_1647 rfl (lv_at hl 5 rfl) ?_
  refine lv_iload hx hb d_law_1648 (lv_at hl 1 rfl) ?_
  refine lv_iconst (v := 2) hx hb d_law_1650 (by decide) ?_
  refine lv_iadd hx hb d_law_1651 ?_
  rw [show ((nI i) + 2 : Int32) = nI (i + 2) from nI_add _ 2]
  refine va_sld hx hb hX hbl hbA hS (vp_in_nI (by omega) (by omega)) d_law_1652 ?_
  rw [show (xs (nI (i + 2)).toNatClampNeg : Int32) = xs (i + 2) from by rw [nI_clamp (by omega)]]
  rw [show (xs (i + 2) : Int32) = x2 from hx2.symm]
  have hPc := hP.sub (ws' := (mo_ws m0 e0 (nI (t_tn T)) (nI n) (nI (t_bc T)) (lN P) (lN Q) (lN G) (lN (ckey (t_tn T) (t_kc T) (t_kp T))) (lN (t_pa T)) (lN (t_pb T)) (t_sht T) a0 a1 a2 a3 a4 a5 a6 a7 a8 a9 mb0 mb1 oc mb2 mb3 mb4 mb5 ++ jw_ws a0 cJ 1232 nf)) [26, 33] rfl
  have hDc := hD.sub (ws' := (mo_ws m0 e0 (nI (t_tn T)) (nI n) (nI (t_bc T)) (lN P) (lN Q) (lN G) (lN (ckey (t_tn T) (t_kc T) (t_kp T))) (lN (t_pa T)) (lN (t_pb T)) (t_sht T) a0 a1 a2 a3 a4 a5 a6 a7 a8 a9 mb0 mb1 oc mb2 mb3 mb4 mb5 ++ jw_ws a0 cJ 1232 nf)) [26, 33] (by decide) rfl
  have hKc := hK.sub (tys' := [(cJ, .long), (cI, .int)]) [0, 1] rfl
  have hFc := va_free (wc := (mo_ws m0 e0 (nI (t_tn T)) (nI n) (nI (t_bc T)) (lN P) (lN Q) (lN G) (lN (ckey (t_tn T) (t_kc T) (t_kp T))) (lN (t_pa T)) (lN (t_pb T)) (t_sht T) a0 a1 a2 a3 a4 a5 a6 a7 a8 a9 mb0 mb1 oc mb2 mb3 mb4 mb5 ++ jw_ws a0 cJ 1232 nf)) hD hS hA [26, 33] rfl
  refine va_calll (va_runV (As := [.int x1, .int x2]) (rest := []) ⟨hx, hb, hml, hown, hts⟩ (c_Bm_entry_1 l dC dI cJ cI H.size m0 e0 (t_tn T) n (t_bc T) P Q G (ckey (t_tn T) (t_kc T) (t_kp T)) (t_pa T) (t_pb T) (t_sht T) a0 a1 a2 a3 a4 a5 a6 a7 a8 a9 mb0 mb1 oc mb2 mb3 mb4 mb5 nf kd x1 x2 hn hnfk hC) (cwV 2 hts (gw_V gk_1178 gk_1179 gk_1180 gk_7 gk_1181) rfl rfl rfl (by decide +kernel) ⟨(Nat.le_of_ble_eq_true rfl), (Nat.le_of_ble_eq_true rfl)⟩) ⟨fun a U g mk q => by obtain ⟨q0, q1, qP, qK, qD⟩ := q; exact ⟨q0, q1, qP, va_K.moved (u := U) (U := U.calling g mk a) (Vm.Alike.refl U.vm) qK, qD⟩, va_recv hK hP (ci := 8) (q0 := 26) rfl rfl, fun U hU hW => ⟨rfl, by rw [hU], by rw [hU]; exact hPc, va_K.moved hW.alike hKc, hDc.weaken (fun _ _ _ _ => trivial)⟩⟩ rfl rfl hl.1 rfl (lv_room (Nat.le_of_ble_eq_true rfl)) d_law_1653 ⟨show cells + 8 + 0 ≤ 601024 by omega, show slots + 48 + 0 ≤ 7293034 by omega⟩) hS (fun q _ h => hFc q h) hFc (fun r_9 v9 t9 H1 locs ht hvm hw hB hz1 hk1 hS => ?_)
  obtain ⟨hP1, hK1, hD1⟩ := hB
  rw [ht] at hP1
  obtain ⟨hP, hD⟩ := va_joinQ (X := (jw_ws out cJ 1 of ++ (bb_ws b0 bd0 pr0 t0 au0 da (.ref g0) ++ (rw_ws da cJ (r8 d0 d1 d2 d3 d4 d5 d6 d7) ++ (bd_ws bd0 h0 ro lo n cR (rrf rb) (rrf lb) ++ (pr_ws pr0 h0 cm cJ ccf ++ (ha_ws h0 aw ax ay cJ cI w csc cst cL ++ (tt_ws t0 ka aa ba sa (.ref g0) cJ T ++ (au_ws au0 bd0 pr0 tu0 sd ++ (tt_ws tu0 uka uaa uba usa gu cJ T0 ++ (gp_ws g0 mF mE P f1 k1 Q f2 k2 G ++ (mo_ws m0 e0 (nI (t_tn T)) (nI n) (nI (t_bc T)) (lN P) (lN Q) (lN G) (lN (ckey (t_tn T) (t_kc T) (t_kp T))) (lN (t_pa T)) (lN (t_pb T)) (t_sht T) a0 a1 a2 a3 a4 a5 a6 a7 a8 a9 mb0 mb1 oc mb2 mb3 mb4 mb5 ++ (iw_ws a7 cI 256 bf ++ (iw_ws a8 cI 64 sc ++ (iw_ws a9 cI 8 st ++ (iw_ws mb0 cI 8 kS ++ (iw_ws mb1 cI 64 kR ++ (jw_ws a2 cJ 4 tf ++ (jw_ws a0 cJ 1232 nf ++ (jw_ws a1 cJ 616 cf ++ (iw_ws a4 cI 4 kf ++ (jw_ws mb2 cJ 4 ky ++ (jw_ws a3 cJ 16 lf ++ (iw_ws a5 cI 4 sf ++ (iw_ws a6 cI 64 vf ++ (jw_ws mb3 cJ 128 md ++ (jw_ws mb4 cJ 4 sh ++ iw_ws mb5 cI 64 ct))))))))))))))))))))))))))) (cx := (mo_ws m0 e0 (nI (t_tn T)) (nI n) (nI (t_bc T)) (lN P) (lN Q) (lN G) (lN (ckey (t_tn T) (t_kc T) (t_kp T))) (lN (t_pa T)) (lN (t_pb T)) (t_sht T) a0 a1 a2 a3 a4 a5 a6 a7 a8 a9 mb0 mb1 oc mb2 mb3 mb4 mb5 ++ jw_ws a0 cJ 1232 nf)) (wr := (jw_ws out cJ 1 of ++ (bb_ws b0 bd0 pr0 t0 au0 da (.ref g0) ++ (rw_ws da cJ (r8 d0 d1 d2 d3 d4 d5 d6 d7) ++ (bd_ws bd0 h0 ro lo n cR (rrf rb) (rrf lb) ++ (pr_ws pr0 h0 cm cJ ccf ++ (ha_ws h0 aw ax ay cJ cI w csc cst cL ++ (tt_ws t0 ka aa ba sa (.ref g0) cJ T ++ (au_ws au0 bd0 pr0 tu0 sd ++ (tt_ws tu0 uka uaa uba usa gu cJ T0 ++ (gp_ws g0 mF mE P f1 k1 Q f2 k2 G ++ (iw_ws a7 cI 256 bf ++ (iw_ws a8 cI 64 sc ++ (iw_ws a9 cI 8 st ++ (iw_ws mb0 cI 8 kS ++ (iw_ws mb1 cI 64 kR ++ (jw_ws a2 cJ 4 tf ++ (jw_ws a1 cJ 616 cf ++ (iw_ws a4 cI 4 kf ++ (jw_ws mb2 cJ 4 ky ++ (jw_ws a3 cJ 16 lf ++ (iw_ws a5 cI 4 sf ++ (iw_ws a6 cI 64 vf ++ (jw_ws mb3 cJ 128 md ++ (jw_ws mb4 cJ 4 sh ++ iw_ws mb5 cI 64 ct))))))))))))))))))))))))) (w1 := (mo_ws m0 1 (nI (t_tn T)) (nI n) (nI (t_bc T)) (lN P) (lN Q) (lN G) (lN (ckey (t_tn T) (t_kc T) (t_kp T))) (lN (t_pa T)) (lN (t_pb T)) (t_sht T) a0 a1 a2 a3 a4 a5 a6 a7 a8 a9 mb0 mb1 oc mb2 mb3 mb4 mb5 ++ jw_ws a0 cJ 1232 nf)) (pl := bpool rb lb cJ R Lk) hP hD [26, 33] [0, 1, 2, 3, 4, 5, 6, 7, 8, 9, 10, 11, 12, 13, 14, 15, 16, 17, 18, 19, 20, 21, 22, 23, 24, 25, 27, 28, 29, 30, 31, 32, 34, 35, 36, 37, 38, 39, 40, 41, 42] rfl rfl (by decide) (by decide) hk1 hFc hP1 hD1
  have hP := hP.part (cx := (jw_ws out cJ 1 of ++ (bb_ws b0 bd0 pr0 t0 au0 da (.ref g0) ++ (rw_ws da cJ (r8 d0 d1 d2 d3 d4 d5 d6 d7) ++ (bd_ws bd0 h0 ro lo n cR (rrf rb) (rrf lb) ++ (pr_ws pr0 h0 cm cJ ccf ++ (ha_ws h0 aw ax ay cJ cI w csc cst cL ++ (tt_ws t0 ka aa ba sa (.ref g0) cJ T ++ (au_ws au0 bd0 pr0 tu0 sd ++ (tt_ws tu0 uka uaa uba usa gu cJ T0 ++ (gp_ws g0 mF mE P f1 k1 Q f2 k2 G ++ (mo_ws m0 1 (nI (t_tn T)) (nI n) (nI (t_bc T)) (lN P) (lN Q) (lN G) (lN (ckey (t_tn T) (t_kc T) (t_kp T))) (lN (t_pa T)) (lN (t_pb T)) (t_sht T) a0 a1 a2 a3 a4 a5 a6 a7 a8 a9 mb0 mb1 oc mb2 mb3 mb4 mb5 ++ (iw_ws a7 cI 256 bf ++ (iw_ws a8 cI 64 sc ++ (iw_ws a9 cI 8 st ++ (iw_ws mb0 cI 8 kS ++ (iw_ws mb1 cI 64 kR ++ (jw_ws a2 cJ 4 tf ++ (jw_ws a0 cJ 1232 nf ++ (jw_ws a1 cJ 616 cf ++ (iw_ws a4 cI 4 kf ++ (jw_ws mb2 cJ 4 ky ++ (jw_ws a3 cJ 16 lf ++ (iw_ws a5 cI 4 sf ++ (iw_ws a6 cI 64 vf ++ (jw_ws mb3 cJ 128 md ++ (jw_ws mb4 cJ 4 sh ++ iw_ws mb5 cI 64 ct))))))))))))))))))))))))))) [0, 1, 2, 3, 4, 5, 6, 7, 8, 9, 10, 11, 12, 13, 14, 15, 16, 17, 18, 19, 20, 21, 22, 23, 24, 25, 41, 26, 27, 28, 29, 30, 31, 42, 32, 33, 34, 35, 36, 37, 38, 39, 40] rfl
  have hD := hD.part (cx := (jw_ws out cJ 1 of ++ (bb_ws b0 bd0 pr0 t0 au0 da (.ref g0) ++ (rw_ws da cJ (r8 d0 d1 d2 d3 d4 d5 d6 d7) ++ (bd_ws bd0 h0 ro lo n cR (rrf rb) (rrf lb) ++ (pr_ws pr0 h0 cm cJ ccf ++ (ha_ws h0 aw ax ay cJ cI w csc cst cL ++ (tt_ws t0 ka aa ba sa (.ref g0) cJ T ++ (au_ws au0 bd0 pr0 tu0 sd ++ (tt_ws tu0 uka uaa uba usa gu cJ T0 ++ (gp_ws g0 mF mE P f1 k1 Q f2 k2 G ++ (mo_ws m0 1 (nI (t_tn T)) (nI n) (nI (t_bc T)) (lN P) (lN Q) (lN G) (lN (ckey (t_tn T) (t_kc T) (t_kp T))) (lN (t_pa T)) (lN (t_pb T)) (t_sht T) a0 a1 a2 a3 a4 a5 a6 a7 a8 a9 mb0 mb1 oc mb2 mb3 mb4 mb5 ++ (iw_ws a7 cI 256 bf ++ (iw_ws a8 cI 64 sc ++ (iw_ws a9 cI 8 st ++ (iw_ws mb0 cI 8 kS ++ (iw_ws mb1 cI 64 kR ++ (jw_ws a2 cJ 4 tf ++ (jw_ws a0 cJ 1232 nf ++ (jw_ws a1 cJ 616 cf ++ (iw_ws a4 cI 4 kf ++ (jw_ws mb2 cJ 4 ky ++ (jw_ws a3 cJ 16 lf ++ (iw_ws a5 cI 4 sf ++ (iw_ws a6 cI 64 vf ++ (jw_ws mb3 cJ 128 md ++ (jw_ws mb4 cJ 4 sh ++ iw_ws mb5 cI 64 ct))))))))))))))))))))))))))) [0, 1, 2, 3, 4, 5, 6, 7, 8, 9, 10, 11, 12, 13, 14, 15, 16, 17, 18, 19, 20, 21, 22, 23, 24, 25, 41, 26, 27, 28, 29, 30, 31, 42, 32, 33, 34, 35, 36, 37, 38, 39, 40] (by decide) rfl
  generalize H1 = H at hP hS ⊢
  clear hPc hDc hFc hP1 hD1 hK1 ht hk1 hz1
  refine lv_lstore (lv' := [(6, .long r_9), (5, .int 1), (4, .int (nI i)), (3, .ref out), (2, .ref m0), (1, .ref b0), (0, .ref b)]) hx hb d_law_1656 hl (by decide) rfl (fun ls hl => ?_)
  refine lv_aload_n hx hb d_law_1658 rfl (lv_at hl 4 rfl) ?_
  have hPc := hP.sub (ws' := (mo_ws m0 1 (nI (t_tn T)) (nI n) (nI (t_bc T)) (lN P) (lN Q) (lN G) (lN (ckey (t_tn T) (t_kc T) (t_kp T))) (lN (t_pa T)) (lN (t_pb T)) (t_sht T) a0 a1 a2 a3 a4 a5 a6 a7 a8 a9 mb0 mb1 oc mb2 mb3 mb4 mb5)) [26] rfl
  have hKc := hK.sub (tys' := [(cJ, .long), (cI, .int)]) [0, 1] rfl
  refine va_calli (va_runV (As := []) (rest := []) ⟨hx, hb, hml, hown, hts⟩ (c_Bm_thrown l H dC dI cJ cI m0 1 (nI (t_tn T)) (nI n) (nI (t_bc T)) (lN P) (lN Q) (lN G) (lN (ckey (t_tn T) (t_kc T) (t_kp T))) (lN (t_pa T)) (lN (t_pb T)) (t_sht T) a0 a1 a2 a3 a4 a5 a6 a7 a8 a9 mb0 mb1 oc mb2 mb3 mb4 mb5 hPc) (cwV 0 hts (gw_V gk_1004 gk_1005 gk_1006 gk_7 gk_1007) rfl rfl rfl (by decide +kernel) ⟨(Nat.le_of_ble_eq_true rfl), (Nat.le_of_ble_eq_true rfl)⟩) ⟨fun a U g mk q => ⟨q.1, q.2.1, va_K.moved (u := U) (U := U.calling g mk a) (Vm.Alike.refl U.vm) q.2.2⟩, va_recv hK hP (ci := 8) (q0 := 26) rfl rfl, fun U hU hW => ⟨rfl, hU, va_K.moved hW.alike hKc⟩⟩ rfl rfl hl.1 rfl (lv_room (Nat.le_of_ble_eq_true rfl)) d_law_1659 ⟨show cells + 8 + 0 + 0 ≤ 601024 by omega, show slots + 48 + 0 + 0 ≤ 7293034 by omega⟩) hS (fun q _ h => h.elim) (fun q h => h.elim) (fun r_10 w9 t9 H1 locs ht hvm hw9 hB hz1 hk1 hS => ?_)
  obtain rfl : H = H1 := hB.symm.trans ht
  have hw9 : r_10 = 1 := hw9
  subst hw9
  clear hPc hz1 hk1 hB
  refine lv_iload hx hb d_law_1662 (lv_at hl 1 rfl) ?_
  refine lv_icmp_eq (tgt := 1669) hx hb d_law_1664 (by decide) (fun c_11 => ?_) (fun c_11 => ?_)
  · -- taken
    refine lv_iload hx hb d_law_1669 (lv_at hl 1 rfl) ?_
    refine lv_if_ne (tgt := 1685) hx hb d_law_1671 (by decide) (fun c_12 => ?_) (fun c_12 => ?_)
    · -- taken
      refine lv_goto (tgt := 1965) hx hb d_law_1685 (by decide) ?_
      refine W.widen (k := cells + 20) (n := slots + 200) (by omega) (by omega) ?_
      have hI9 : LI dC dI cJ cI cR A out b0 m0 H := LG.mk hP hD hR
      exact cont _ _ _ hS hI9 (lv_sub hl [2, 3, 4, 5, 6] rfl)
    · -- not taken
      exact absurd c_12 (by decide)
  · -- not taken
    exact absurd c_11 (by decide)
set_option maxHeartbeats 16000000 in
set_option maxRecDepth 100000 in
theorem bk_chain_g {p : Program} {l : Launch} {e : Env} {s : State} {m : MethodId} {below : List Frame} {meth : Method} {c : Code} {b L : Nat} {xs : Nat → Int32} {dC : Nat → ClassId} {dI : Nat → Nat → Nat} {cJ cI cR : ClassId} {A : Nat → Prop} {out b0 m0 : Nat} {rA sA wA : Nat} (C : LC p l s m meth c b L xs dC dI cJ cI cR A rA sA wA) {i cells slots : Nat} (hi : i + 14 ≤ L) (hcs : cells + 20 ≤ 601024 ∧ slots + 200 ≤ 7293034) (cont : LK p l e s m below meth c b dC dI cJ cI cR A out b0 m0 i (cells + 20) (slots + 200) 1965) {H : Heap} {locs : List Loc} {ls : Array Slot} (hS : va_S A s.heap H locs) (hI : LG dC dI cJ cI cR A out b0 m0 H) (hl : lv_has ls 8 [(4, .int (nI i)), (3, .ref out), (2, .ref m0), (1, .ref b0), (0, .ref b)]) : W p l e room_1 s m #[Value.ref b] below meth c H locs cells slots (lw_Z below #[Value.ref b] s) (F0 m 1688 ls []) := by
  obtain ⟨hnt, ⟨hx, hb, hr, hml, hown, hts0, hX, hbl, hlocks, hgv⟩, hK, hA, hbA, hZha, hZx, hZn, hZw, hL⟩ := C
  have hown : s.vm.findClass "BallotBoardLaw" = some m.cls := hown
  have hts := lw_hts hts0
  refine hI _ (fun bd0 pr0 t0 au0 da h0 ro lo rb lb cm aw ax ay ka aa ba sa tu0 uka uaa uba usa a0 a1 a2 a3 a4 a5 a6 a7 a8 a9 mb0 mb1 oc mb2 mb3 mb4 mb5 cL of w tf nf cf ky lf md sh ccf csc cst bf sc st kf sf vf ct gu d0 d1 d2 d3 d4 d5 d6 d7 e0 R Lk g0 mF mE P f1 k1 Q f2 k2 G N n sd bc al pa pb cl T T0 kd wh hP hD hR => ?_)
  have q1 := hR.1.2.2.2.1.1
  subst q1
  have q2 := hR.2.2.2.1.1
  subst q2
  have q3 := hR.2.2.2.1.2.1
  subst q3
  have q4 := hR.2.2.2.1.2.2.1
  subst q4
  have q5 := hR.2.2.2.1.2.2.2.1
  subst q5
  have q6 := hR.2.2.2.1.2.2.2.2.1
  subst q6
  obtain ⟨⟨hok, htok, hN0, htn, hkc, hn⟩, ⟨hnO, hnS, hn0S, hn0B, hbc, hsc, hsh0⟩, ⟨hgr, hrk, hrs, hrb, hko, hkP⟩, ⟨hal, hclN, hky, hpa, hmd, haP, hbP⟩, ⟨hsP, hsp, hpb, hwf, hEI, hnfR, hcfR, hkf⟩, ⟨hnfk, hkq, hsd, hsn, hsdd, h0k, hkca⟩, ⟨hPQ, h61F, hQ3, hG2, hGP, hGQ⟩, hTt, hTt0, hRT⟩ := LG_facts hR
  obtain ⟨x1, hx1⟩ : ∃ v, v = xs (i + 1) := ⟨_, rfl⟩
  obtain ⟨x2, hx2⟩ : ∃ v, v = xs (i + 2) := ⟨_, rfl⟩
  by_cases hC : hasW n x1 x2
  · -- it holds
    refine lv_aload_n hx hb d_law_1688 rfl (lv_at hl 3 rfl) ?_
    refine lv_aload_n hx hb d_law_1689 rfl (lv_at hl 4 rfl) ?_
    refine lv_iload hx hb d_law_1690 (lv_at hl 0 rfl) ?_
    refine lv_iconst (v := 1) hx hb d_law_1692 (by decide) ?_
    refine lv_iadd hx hb d_law_1693 ?_
    rw [show ((nI i) + 1 : Int32) = nI (i + 1) from nI_add _ 1]
    refine va_sld hx hb hX hbl hbA hS (vp_in_nI (by omega) (by omega)) d_law_1694 ?_
    rw [show (xs (nI (i + 1)).toNatClampNeg : Int32) = xs (i + 1) from by rw [nI_clamp (by omega)]]
    rw [show (xs (i + 1) : Int32) = x1 from hx1.symm]
    refine lv_aload_n hx hb d_law_1695 rfl (lv_at hl 4 rfl) ?_
    refine lv_iload hx hb d_law_1696 (lv_at hl 0 rfl) ?_
    refine lv_iconst (v := 2) hx hb d_law_1698 (by decide) ?_
    refine lv_iadd hx hb d_law_1699 ?_
    rw [show ((nI i) + 2 : Int32) = nI (i + 2) from nI_add _ 2]
    refine va_sld hx hb hX hbl hbA hS (vp_in_nI (by omega) (by omega)) d_law_1700 ?_
    rw [show (xs (nI (i + 2)).toNatClampNeg : Int32) = xs (i + 2) from by rw [nI_clamp (by omega)]]
    rw [show (xs (i + 2) : Int32) = x2 from hx2.symm]
    refine lv_aload_n hx hb d_law_1701 rfl (lv_at hl 1 rfl) ?_
    have hPc := hP.part (cx := (jw_ws out cJ 1 of ++ (bb_ws b0 bd0 pr0 t0 au0 da (.ref g0) ++ bd_ws bd0 h0 ro lo n cR (rrf rb) (rrf lb)))) [0, 1, 3, 4, 5] rfl
    have hDc := hD.part (cx := (jw_ws out cJ 1 of ++ (bb_ws b0 bd0 pr0 t0 au0 da (.ref g0) ++ bd_ws bd0 h0 ro lo n cR (rrf rb) (rrf lb)))) [0, 1, 3, 4, 5] (by decide) rfl
    have hKc := hK.sub (tys' := [(cJ, .long), (cI, .int), (cR, .array .long)]) [0, 1, 2] rfl
    have hFc := va_freeP (cx := (jw_ws out cJ 1 of ++ (bb_ws b0 bd0 pr0 t0 au0 da (.ref g0) ++ bd_ws bd0 h0 ro lo n cR (rrf rb) (rrf lb)))) hD hS hA [0, 1, 3, 4, 5] rfl
    have hZc0 : xz (va_A ((jw_ws out cJ 1 of ++ (bb_ws b0 bd0 pr0 t0 au0 da (.ref g0) ++ bd_ws bd0 h0 ro lo n cR (rrf rb) (rrf lb))) ++ bpool rb lb cJ R Lk) H.size) s H := (hZx.kept hS.2.1).narrow hFc
    have hZc1 : nc_Z s := hZn
    refine vx_calli (vx_runSX (hh := h_Lw_chain) (As := [.ref b0, .int x1, .int x2, .ref out]) (rest := []) ⟨hx, hb, hml, hown, hts⟩ (c_Lw_chain_0 l hnt dC dI cJ cI cR H.size b0 bd0 pr0 t0 au0 da (.ref g0) h0 ro lo n rb lb (t_tn T) kd wh R Lk x1 x2 out of hwf hC) (vx_cwSW 4 hts (gw_Sv gk_767 gk_768 gk_0 gk_769) rfl rfl rfl (by decide +kernel) ⟨(Nat.le_of_ble_eq_true rfl), (Nat.le_of_ble_eq_true rfl)⟩) ⟨fun a U g mk q => by obtain ⟨q0, q1, qP, qK, qD, qZ0, qZ1⟩ := q; exact ⟨q0, q1, qP, va_K.moved (u := U) (U := U.calling g mk a) (Vm.Alike.refl U.vm) qK, qD, xz.same (u := U) (U := U.calling g mk a) rfl qZ0, nc_Z.moved (u := U) (U := U.calling g mk a) (Vm.Alike.refl U.vm) qZ1⟩, fun U hU hW => ⟨rfl, by rw [hU], by rw [hU]; exact hPc, va_K.moved hW.alike hKc, hDc.weaken (fun _ _ _ _ => trivial), by rw [hU]; exact xz.warm hW hZc0, nc_Z.moved hW.alike hZc1⟩⟩ rfl rfl hl.1 rfl (lv_room (Nat.le_of_ble_eq_true rfl)) d_law_1702 ⟨show cells + 8 ≤ 601024 by omega, show slots + 48 ≤ 7293034 by omega⟩) hS (fun q _ h => hFc q h) hFc (fun q _ h => hFc q h) (fun E9 ce9 q9 u8 t9 H1 locs ht hvm hpx hbx hz1 hk1 hS hce hcv hcl => hpx.elim) (fun r_1 u9 t9 H1 locs ht hvm hw hB hz1 hk1 hS => ?_)
    obtain ⟨hP1, hK1, hD1⟩ := hB
    rw [ht] at hP1
    obtain ⟨hP, hD⟩ := va_joinP (X := (jw_ws out cJ 1 of ++ (bb_ws b0 bd0 pr0 t0 au0 da (.ref g0) ++ (rw_ws da cJ (r8 d0 d1 d2 d3 d4 d5 d6 d7) ++ (bd_ws bd0 h0 ro lo n cR (rrf rb) (rrf lb) ++ (pr_ws pr0 h0 cm cJ ccf ++ (ha_ws h0 aw ax ay cJ cI w csc cst cL ++ (tt_ws t0 ka aa ba sa (.ref g0) cJ T ++ (au_ws au0 bd0 pr0 tu0 sd ++ (tt_ws tu0 uka uaa uba usa gu cJ T0 ++ (gp_ws g0 mF mE P f1 k1 Q f2 k2 G ++ (mo_ws m0 e0 (nI (t_tn T)) (nI n) (nI (t_bc T)) (lN P) (lN Q) (lN G) (lN (ckey (t_tn T) (t_kc T) (t_kp T))) (lN (t_pa T)) (lN (t_pb T)) (t_sht T) a0 a1 a2 a3 a4 a5 a6 a7 a8 a9 mb0 mb1 oc mb2 mb3 mb4 mb5 ++ (iw_ws a7 cI 256 bf ++ (iw_ws a8 cI 64 sc ++ (iw_ws a9 cI 8 st ++ (iw_ws mb0 cI 8 kS ++ (iw_ws mb1 cI 64 kR ++ (jw_ws a2 cJ 4 tf ++ (jw_ws a0 cJ 1232 nf ++ (jw_ws a1 cJ 616 cf ++ (iw_ws a4 cI 4 kf ++ (jw_ws mb2 cJ 4 ky ++ (jw_ws a3 cJ 16 lf ++ (iw_ws a5 cI 4 sf ++ (iw_ws a6 cI 64 vf ++ (jw_ws mb3 cJ 128 md ++ (jw_ws mb4 cJ 4 sh ++ iw_ws mb5 cI 64 ct))))))))))))))))))))))))))) (cx := (jw_ws out cJ 1 of ++ (bb_ws b0 bd0 pr0 t0 au0 da (.ref g0) ++ bd_ws bd0 h0 ro lo n cR (rrf rb) (rrf lb)))) (wr := (rw_ws da cJ (r8 d0 d1 d2 d3 d4 d5 d6 d7) ++ (pr_ws pr0 h0 cm cJ ccf ++ (ha_ws h0 aw ax ay cJ cI w csc cst cL ++ (tt_ws t0 ka aa ba sa (.ref g0) cJ T ++ (au_ws au0 bd0 pr0 tu0 sd ++ (tt_ws tu0 uka uaa uba usa gu cJ T0 ++ (gp_ws g0 mF mE P f1 k1 Q f2 k2 G ++ (mo_ws m0 e0 (nI (t_tn T)) (nI n) (nI (t_bc T)) (lN P) (lN Q) (lN G) (lN (ckey (t_tn T) (t_kc T) (t_kp T))) (lN (t_pa T)) (lN (t_pb T)) (t_sht T) a0 a1 a2 a3 a4 a5 a6 a7 a8 a9 mb0 mb1 oc mb2 mb3 mb4 mb5 ++ (iw_ws a7 cI 256 bf ++ (iw_ws a8 cI 64 sc ++ (iw_ws a9 cI 8 st ++ (iw_ws mb0 cI 8 kS ++ (iw_ws mb1 cI 64 kR ++ (jw_ws a2 cJ 4 tf ++ (jw_ws a0 cJ 1232 nf ++ (jw_ws a1 cJ 616 cf ++ (iw_ws a4 cI 4 kf ++ (jw_ws mb2 cJ 4 ky ++ (jw_ws a3 cJ 16 lf ++ (iw_ws a5 cI 4 sf ++ (iw_ws a6 cI 64 vf ++ (jw_ws mb3 cJ 128 md ++ (jw_ws mb4 cJ 4 sh ++ iw_ws mb5 cI 64 ct)))))))))))))))))))))))) (rx := (jw_ws out cJ 1 (vp_updL of 0 (Lk u9.1 u9.2)) ++ (bb_ws b0 bd0 pr0 t0 au0 da (.ref g0) ++ bd_ws bd0 h0 ro lo n cR (rrf rb) (rrf lb)))) (pl := bpool rb lb cJ R Lk) (pl1 := bpool rb lb cJ R Lk) hP hD [0, 1, 3, 4, 5] [2, 6, 7, 8, 9, 10, 11, 12, 13, 14, 15, 16, 17, 18, 19, 20, 21, 22, 23, 24, 25, 26, 27, 28, 29, 30, 31, 32, 33, 34, 35, 36, 37, 38, 39, 40, 41, 42] rfl rfl (by decide) (by decide) hk1 hFc hP1 hD1
    have hP := hP.part (cx := (jw_ws out cJ 1 (vp_updL of 0 (Lk u9.1 u9.2)) ++ (bb_ws b0 bd0 pr0 t0 au0 da (.ref g0) ++ (rw_ws da cJ (r8 d0 d1 d2 d3 d4 d5 d6 d7) ++ (bd_ws bd0 h0 ro lo n cR (rrf rb) (rrf lb) ++ (pr_ws pr0 h0 cm cJ ccf ++ (ha_ws h0 aw ax ay cJ cI w csc cst cL ++ (tt_ws t0 ka aa ba sa (.ref g0) cJ T ++ (au_ws au0 bd0 pr0 tu0 sd ++ (tt_ws tu0 uka uaa uba usa gu cJ T0 ++ (gp_ws g0 mF mE P f1 k1 Q f2 k2 G ++ (mo_ws m0 e0 (nI (t_tn T)) (nI n) (nI (t_bc T)) (lN P) (lN Q) (lN G) (lN (ckey (t_tn T) (t_kc T) (t_kp T))) (lN (t_pa T)) (lN (t_pb T)) (t_sht T) a0 a1 a2 a3 a4 a5 a6 a7 a8 a9 mb0 mb1 oc mb2 mb3 mb4 mb5 ++ (iw_ws a7 cI 256 bf ++ (iw_ws a8 cI 64 sc ++ (iw_ws a9 cI 8 st ++ (iw_ws mb0 cI 8 kS ++ (iw_ws mb1 cI 64 kR ++ (jw_ws a2 cJ 4 tf ++ (jw_ws a0 cJ 1232 nf ++ (jw_ws a1 cJ 616 cf ++ (iw_ws a4 cI 4 kf ++ (jw_ws mb2 cJ 4 ky ++ (jw_ws a3 cJ 16 lf ++ (iw_ws a5 cI 4 sf ++ (iw_ws a6 cI 64 vf ++ (jw_ws mb3 cJ 128 md ++ (jw_ws mb4 cJ 4 sh ++ iw_ws mb5 cI 64 ct))))))))))))))))))))))))))) [38, 39, 0, 40, 41, 42, 1, 2, 3, 4, 5, 6, 7, 8, 9, 10, 11, 12, 13, 14, 15, 16, 17, 18, 19, 20, 21, 22, 23, 24, 25, 26, 27, 28, 29, 30, 31, 32, 33, 34, 35, 36, 37] rfl
    have hD := hD.part (cx := (jw_ws out cJ 1 (vp_updL of 0 (Lk u9.1 u9.2)) ++ (bb_ws b0 bd0 pr0 t0 au0 da (.ref g0) ++ (rw_ws da cJ (r8 d0 d1 d2 d3 d4 d5 d6 d7) ++ (bd_ws bd0 h0 ro lo n cR (rrf rb) (rrf lb) ++ (pr_ws pr0 h0 cm cJ ccf ++ (ha_ws h0 aw ax ay cJ cI w csc cst cL ++ (tt_ws t0 ka aa ba sa (.ref g0) cJ T ++ (au_ws au0 bd0 pr0 tu0 sd ++ (tt_ws tu0 uka uaa uba usa gu cJ T0 ++ (gp_ws g0 mF mE P f1 k1 Q f2 k2 G ++ (mo_ws m0 e0 (nI (t_tn T)) (nI n) (nI (t_bc T)) (lN P) (lN Q) (lN G) (lN (ckey (t_tn T) (t_kc T) (t_kp T))) (lN (t_pa T)) (lN (t_pb T)) (t_sht T) a0 a1 a2 a3 a4 a5 a6 a7 a8 a9 mb0 mb1 oc mb2 mb3 mb4 mb5 ++ (iw_ws a7 cI 256 bf ++ (iw_ws a8 cI 64 sc ++ (iw_ws a9 cI 8 st ++ (iw_ws mb0 cI 8 kS ++ (iw_ws mb1 cI 64 kR ++ (jw_ws a2 cJ 4 tf ++ (jw_ws a0 cJ 1232 nf ++ (jw_ws a1 cJ 616 cf ++ (iw_ws a4 cI 4 kf ++ (jw_ws mb2 cJ 4 ky ++ (jw_ws a3 cJ 16 lf ++ (iw_ws a5 cI 4 sf ++ (iw_ws a6 cI 64 vf ++ (jw_ws mb3 cJ 128 md ++ (jw_ws mb4 cJ 4 sh ++ iw_ws mb5 cI 64 ct))))))))))))))))))))))))))) [38, 39, 0, 40, 41, 42, 1, 2, 3, 4, 5, 6, 7, 8, 9, 10, 11, 12, 13, 14, 15, 16, 17, 18, 19, 20, 21, 22, 23, 24, 25, 26, 27, 28, 29, 30, 31, 32, 33, 34, 35, 36, 37] (by decide) rfl
    generalize H1 = H at hP hS ⊢
    clear hPc hDc hFc hP1 hD1 hK1 ht hk1 hz1
    have hr9 : r_1 = 0 := hw.1
    subst hr9
    have hw := hw.2
    obtain ⟨hxk, hk, hxJ, hJ⟩ := hw
    refine lv_istore (lv' := [(5, .int 0), (4, .int (nI i)), (3, .ref out), (2, .ref m0), (1, .ref b0), (0, .ref b)]) hx hb d_law_1705 hl (by decide) rfl (fun ls hl => ?_)
    refine lv_aload_n hx hb d_law_1707 rfl (lv_at hl 3 rfl) ?_
    refine lv_aload_n hx hb d_law_1708 rfl (lv_at hl 5 rfl) ?_
    refine lv_iload hx hb d_law_1709 (lv_at hl 1 rfl) ?_
    refine lv_iconst (v := 1) hx hb d_law_1711 (by decide) ?_
    refine lv_iadd hx hb d_law_1712 ?_
    rw [show ((nI i) + 1 : Int32) = nI (i + 1) from nI_add _ 1]
    refine va_sld hx hb hX hbl hbA hS (vp_in_nI (by omega) (by omega)) d_law_1713 ?_
    rw [show (xs (nI (i + 1)).toNatClampNeg : Int32) = xs (i + 1) from by rw [nI_clamp (by omega)]]
    rw [show (xs (i + 1) : Int32) = nI u9.1 from (hx1.symm.trans hxk)]
    refine lv_aload_n hx hb d_law_1714 rfl (lv_at hl 5 rfl) ?_
    refine lv_iload hx hb d_law_1715 (lv_at hl 1 rfl) ?_
    refine lv_iconst (v := 2) hx hb d_law_1717 (by decide) ?_
    refine lv_iadd hx hb d_law_1718 ?_
    rw [show ((nI i) + 2 : Int32) = nI (i + 2) from nI_add _ 2]
    refine va_sld hx hb hX hbl hbA hS (vp_in_nI (by omega) (by omega)) d_law_1719 ?_
    rw [show (xs (nI (i + 2)).toNatClampNeg : Int32) = xs (i + 2) from by rw [nI_clamp (by omega)]]
    rw [show (xs (i + 2) : Int32) = nI u9.2 from (hx2.symm.trans hxJ)]
    have hPc := hP.sub (ws' := (mo_ws m0 e0 (nI (t_tn T)) (nI n) (nI (t_bc T)) (lN P) (lN Q) (lN G) (lN (ckey (t_tn T) (t_kc T) (t_kp T))) (lN (t_pa T)) (lN (t_pb T)) (t_sht T) a0 a1 a2 a3 a4 a5 a6 a7 a8 a9 mb0 mb1 oc mb2 mb3 mb4 mb5 ++ jw_ws a1 cJ 616 cf)) [26, 34] rfl
    have hDc := hD.sub (ws' := (mo_ws m0 e0 (nI (t_tn T)) (nI n) (nI (t_bc T)) (lN P) (lN Q) (lN G) (lN (ckey (t_tn T) (t_kc T) (t_kp T))) (lN (t_pa T)) (lN (t_pb T)) (t_sht T) a0 a1 a2 a3 a4 a5 a6 a7 a8 a9 mb0 mb1 oc mb2 mb3 mb4 mb5 ++ jw_ws a1 cJ 616 cf)) [26, 34] (by decide) rfl
    have hKc := hK.sub (tys' := [(cJ, .long), (cI, .int)]) [0, 1] rfl
    have hFc := va_free (wc := (mo_ws m0 e0 (nI (t_tn T)) (nI n) (nI (t_bc T)) (lN P) (lN Q) (lN G) (lN (ckey (t_tn T) (t_kc T) (t_kp T))) (lN (t_pa T)) (lN (t_pb T)) (t_sht T) a0 a1 a2 a3 a4 a5 a6 a7 a8 a9 mb0 mb1 oc mb2 mb3 mb4 mb5 ++ jw_ws a1 cJ 616 cf)) hD hS hA [26, 34] rfl
    refine va_calll (va_runV (As := [.int (nI u9.1), .int (nI u9.2)]) (rest := []) ⟨hx, hb, hml, hown, hts⟩ (c_Bm_chain_0 l dC dI cJ cI H.size m0 e0 (t_tn T) n (t_bc T) P Q G (ckey (t_tn T) (t_kc T) (t_kp T)) (t_pa T) (t_pb T) (t_sht T) a0 a1 a2 a3 a4 a5 a6 a7 a8 a9 mb0 mb1 oc mb2 mb3 mb4 mb5 cf u9.1 u9.2 hn hk hJ) (cwV 2 hts (gw_V gk_1182 gk_1183 gk_1184 gk_7 gk_1185) rfl rfl rfl (by decide +kernel) ⟨(Nat.le_of_ble_eq_true rfl), (Nat.le_of_ble_eq_true rfl)⟩) ⟨fun a U g mk q => by obtain ⟨q0, q1, qP, qK, qD⟩ := q; exact ⟨q0, q1, qP, va_K.moved (u := U) (U := U.calling g mk a) (Vm.Alike.refl U.vm) qK, qD⟩, va_recv hK hP (ci := 8) (q0 := 26) rfl rfl, fun U hU hW => ⟨rfl, by rw [hU], by rw [hU]; exact hPc, va_K.moved hW.alike hKc, hDc.weaken (fun _ _ _ _ => trivial)⟩⟩ rfl rfl hl.1 rfl (lv_room (Nat.le_of_ble_eq_true rfl)) d_law_1720 ⟨show cells + 8 + 0 ≤ 601024 by omega, show slots + 48 + 0 ≤ 7293034 by omega⟩) hS (fun q _ h => hFc q h) hFc (fun r_2 v9 t9 H1 locs ht hvm hw hB hz1 hk1 hS => ?_)
    obtain ⟨hP1, hK1, hD1⟩ := hB
    rw [ht] at hP1
    obtain ⟨hP, hD⟩ := va_joinQ (X := (jw_ws out cJ 1 (vp_updL of 0 (Lk u9.1 u9.2)) ++ (bb_ws b0 bd0 pr0 t0 au0 da (.ref g0) ++ (rw_ws da cJ (r8 d0 d1 d2 d3 d4 d5 d6 d7) ++ (bd_ws bd0 h0 ro lo n cR (rrf rb) (rrf lb) ++ (pr_ws pr0 h0 cm cJ ccf ++ (ha_ws h0 aw ax ay cJ cI w csc cst cL ++ (tt_ws t0 ka aa ba sa (.ref g0) cJ T ++ (au_ws au0 bd0 pr0 tu0 sd ++ (tt_ws tu0 uka uaa uba usa gu cJ T0 ++ (gp_ws g0 mF mE P f1 k1 Q f2 k2 G ++ (mo_ws m0 e0 (nI (t_tn T)) (nI n) (nI (t_bc T)) (lN P) (lN Q) (lN G) (lN (ckey (t_tn T) (t_kc T) (t_kp T))) (lN (t_pa T)) (lN (t_pb T)) (t_sht T) a0 a1 a2 a3 a4 a5 a6 a7 a8 a9 mb0 mb1 oc mb2 mb3 mb4 mb5 ++ (iw_ws a7 cI 256 bf ++ (iw_ws a8 cI 64 sc ++ (iw_ws a9 cI 8 st ++ (iw_ws mb0 cI 8 kS ++ (iw_ws mb1 cI 64 kR ++ (jw_ws a2 cJ 4 tf ++ (jw_ws a0 cJ 1232 nf ++ (jw_ws a1 cJ 616 cf ++ (iw_ws a4 cI 4 kf ++ (jw_ws mb2 cJ 4 ky ++ (jw_ws a3 cJ 16 lf ++ (iw_ws a5 cI 4 sf ++ (iw_ws a6 cI 64 vf ++ (jw_ws mb3 cJ 128 md ++ (jw_ws mb4 cJ 4 sh ++ iw_ws mb5 cI 64 ct))))))))))))))))))))))))))) (cx := (mo_ws m0 e0 (nI (t_tn T)) (nI n) (nI (t_bc T)) (lN P) (lN Q) (lN G) (lN (ckey (t_tn T) (t_kc T) (t_kp T))) (lN (t_pa T)) (lN (t_pb T)) (t_sht T) a0 a1 a2 a3 a4 a5 a6 a7 a8 a9 mb0 mb1 oc mb2 mb3 mb4 mb5 ++ jw_ws a1 cJ 616 cf)) (wr := (jw_ws out cJ 1 (vp_updL of 0 (Lk u9.1 u9.2)) ++ (bb_ws b0 bd0 pr0 t0 au0 da (.ref g0) ++ (rw_ws da cJ (r8 d0 d1 d2 d3 d4 d5 d6 d7) ++ (bd_ws bd0 h0 ro lo n cR (rrf rb) (rrf lb) ++ (pr_ws pr0 h0 cm cJ ccf ++ (ha_ws h0 aw ax ay cJ cI w csc cst cL ++ (tt_ws t0 ka aa ba sa (.ref g0) cJ T ++ (au_ws au0 bd0 pr0 tu0 sd ++ (tt_ws tu0 uka uaa uba usa gu cJ T0 ++ (gp_ws g0 mF mE P f1 k1 Q f2 k2 G ++ (iw_ws a7 cI 256 bf ++ (iw_ws a8 cI 64 sc ++ (iw_ws a9 cI 8 st ++ (iw_ws mb0 cI 8 kS ++ (iw_ws mb1 cI 64 kR ++ (jw_ws a2 cJ 4 tf ++ (jw_ws a0 cJ 1232 nf ++ (iw_ws a4 cI 4 kf ++ (jw_ws mb2 cJ 4 ky ++ (jw_ws a3 cJ 16 lf ++ (iw_ws a5 cI 4 sf ++ (iw_ws a6 cI 64 vf ++ (jw_ws mb3 cJ 128 md ++ (jw_ws mb4 cJ 4 sh ++ iw_ws mb5 cI 64 ct))))))))))))))))))))))))) (w1 := (mo_ws m0 0 (nI (t_tn T)) (nI n) (nI (t_bc T)) (lN P) (lN Q) (lN G) (lN (ckey (t_tn T) (t_kc T) (t_kp T))) (lN (t_pa T)) (lN (t_pb T)) (t_sht T) a0 a1 a2 a3 a4 a5 a6 a7 a8 a9 mb0 mb1 oc mb2 mb3 mb4 mb5 ++ jw_ws a1 cJ 616 cf)) (pl := bpool rb lb cJ R Lk) hP hD [26, 34] [0, 1, 2, 3, 4, 5, 6, 7, 8, 9, 10, 11, 12, 13, 14, 15, 16, 17, 18, 19, 20, 21, 22, 23, 24, 25, 27, 28, 29, 30, 31, 32, 33, 35, 36, 37, 38, 39, 40, 41, 42] rfl rfl (by decide) (by decide) hk1 hFc hP1 hD1
    have hP := hP.part (cx := (jw_ws out cJ 1 (vp_updL of 0 (Lk u9.1 u9.2)) ++ (bb_ws b0 bd0 pr0 t0 au0 da (.ref g0) ++ (rw_ws da cJ (r8 d0 d1 d2 d3 d4 d5 d6 d7) ++ (bd_ws bd0 h0 ro lo n cR (rrf rb) (rrf lb) ++ (pr_ws pr0 h0 cm cJ ccf ++ (ha_ws h0 aw ax ay cJ cI w csc cst cL ++ (tt_ws t0 ka aa ba sa (.ref g0) cJ T ++ (au_ws au0 bd0 pr0 tu0 sd ++ (tt_ws tu0 uka uaa uba usa gu cJ T0 ++ (gp_ws g0 mF mE P f1 k1 Q f2 k2 G ++ (mo_ws m0 0 (nI (t_tn T)) (nI n) (nI (t_bc T)) (lN P) (lN Q) (lN G) (lN (ckey (t_tn T) (t_kc T) (t_kp T))) (lN (t_pa T)) (lN (t_pb T)) (t_sht T) a0 a1 a2 a3 a4 a5 a6 a7 a8 a9 mb0 mb1 oc mb2 mb3 mb4 mb5 ++ (iw_ws a7 cI 256 bf ++ (iw_ws a8 cI 64 sc ++ (iw_ws a9 cI 8 st ++ (iw_ws mb0 cI 8 kS ++ (iw_ws mb1 cI 64 kR ++ (jw_ws a2 cJ 4 tf ++ (jw_ws a0 cJ 1232 nf ++ (jw_ws a1 cJ 616 cf ++ (iw_ws a4 cI 4 kf ++ (jw_ws mb2 cJ 4 ky ++ (jw_ws a3 cJ 16 lf ++ (iw_ws a5 cI 4 sf ++ (iw_ws a6 cI 64 vf ++ (jw_ws mb3 cJ 128 md ++ (jw_ws mb4 cJ 4 sh ++ iw_ws mb5 cI 64 ct))))))))))))))))))))))))))) [0, 1, 2, 3, 4, 5, 6, 7, 8, 9, 10, 11, 12, 13, 14, 15, 16, 17, 18, 19, 20, 21, 22, 23, 24, 25, 41, 26, 27, 28, 29, 30, 31, 32, 42, 33, 34, 35, 36, 37, 38, 39, 40] rfl
    have hD := hD.part (cx := (jw_ws out cJ 1 (vp_updL of 0 (Lk u9.1 u9.2)) ++ (bb_ws b0 bd0 pr0 t0 au0 da (.ref g0) ++ (rw_ws da cJ (r8 d0 d1 d2 d3 d4 d5 d6 d7) ++ (bd_ws bd0 h0 ro lo n cR (rrf rb) (rrf lb) ++ (pr_ws pr0 h0 cm cJ ccf ++ (ha_ws h0 aw ax ay cJ cI w csc cst cL ++ (tt_ws t0 ka aa ba sa (.ref g0) cJ T ++ (au_ws au0 bd0 pr0 tu0 sd ++ (tt_ws tu0 uka uaa uba usa gu cJ T0 ++ (gp_ws g0 mF mE P f1 k1 Q f2 k2 G ++ (mo_ws m0 0 (nI (t_tn T)) (nI n) (nI (t_bc T)) (lN P) (lN Q) (lN G) (lN (ckey (t_tn T) (t_kc T) (t_kp T))) (lN (t_pa T)) (lN (t_pb T)) (t_sht T) a0 a1 a2 a3 a4 a5 a6 a7 a8 a9 mb0 mb1 oc mb2 mb3 mb4 mb5 ++ (iw_ws a7 cI 256 bf ++ (iw_ws a8 cI 64 sc ++ (iw_ws a9 cI 8 st ++ (iw_ws mb0 cI 8 kS ++ (iw_ws mb1 cI 64 kR ++ (jw_ws a2 cJ 4 tf ++ (jw_ws a0 cJ 1232 nf ++ (jw_ws a1 cJ 616 cf ++ (iw_ws a4 cI 4 kf ++ (jw_ws mb2 cJ 4 ky ++ (jw_ws a3 cJ 16 lf ++ (iw_ws a5 cI 4 sf ++ (iw_ws a6 cI 64 vf ++ (jw_ws mb3 cJ 128 md ++ (jw_ws mb4 cJ 4 sh ++ iw_ws mb5 cI 64 ct))))))))))))))))))))))))))) [0, 1, 2, 3, 4, 5, 6, 7, 8, 9, 10, 11, 12, 13, 14, 15, 16, 17, 18, 19, 20, 21, 22, 23, 24, 25, 41, 26, 27, 28, 29, 30, 31, 32, 42, 33, 34, 35, 36, 37, 38, 39, 40] (by decide) rfl
    generalize H1 = H at hP hS ⊢
    clear hPc hDc hFc hP1 hD1 hK1 ht hk1 hz1
    have hr8 := hw
    subst hr8
    refine lv_lstore (lv' := [(6, .long (cf (4 * u9.1 + u9.2))), (5, .int 0), (4, .int (nI i)), (3, .ref out), (2, .ref m0), (1, .ref b0), (0, .ref b)]) hx hb d_law_1723 hl (by decide) rfl (fun ls hl => ?_)
    refine lv_aload_n hx hb d_law_1725 rfl (lv_at hl 4 rfl) ?_
    have hPc := hP.sub (ws' := (mo_ws m0 0 (nI (t_tn T)) (nI n) (nI (t_bc T)) (lN P) (lN Q) (lN G) (lN (ckey (t_tn T) (t_kc T) (t_kp T))) (lN (t_pa T)) (lN (t_pb T)) (t_sht T) a0 a1 a2 a3 a4 a5 a6 a7 a8 a9 mb0 mb1 oc mb2 mb3 mb4 mb5)) [26] rfl
    have hKc := hK.sub (tys' := [(cJ, .long), (cI, .int)]) [0, 1] rfl
    refine va_calli (va_runV (As := []) (rest := []) ⟨hx, hb, hml, hown, hts⟩ (c_Bm_thrown l H dC dI cJ cI m0 0 (nI (t_tn T)) (nI n) (nI (t_bc T)) (lN P) (lN Q) (lN G) (lN (ckey (t_tn T) (t_kc T) (t_kp T))) (lN (t_pa T)) (lN (t_pb T)) (t_sht T) a0 a1 a2 a3 a4 a5 a6 a7 a8 a9 mb0 mb1 oc mb2 mb3 mb4 mb5 hPc) (cwV 0 hts (gw_V gk_1004 gk_1005 gk_1006 gk_7 gk_1007) rfl rfl rfl (by decide +kernel) ⟨(Nat.le_of_ble_eq_true rfl), (Nat.le_of_ble_eq_true rfl)⟩) ⟨fun a U g mk q => ⟨q.1, q.2.1, va_K.moved (u := U) (U := U.calling g mk a) (Vm.Alike.refl U.vm) q.2.2⟩, va_recv hK hP (ci := 8) (q0 := 26) rfl rfl, fun U hU hW => ⟨rfl, hU, va_K.moved hW.alike hKc⟩⟩ rfl rfl hl.1 rfl (lv_room (Nat.le_of_ble_eq_true rfl)) d_law_1726 ⟨show cells + 8 + 0 + 0 ≤ 601024 by omega, show slots + 48 + 0 + 0 ≤ 7293034 by omega⟩) hS (fun q _ h => h.elim) (fun q h => h.elim) (fun r_3 w9 t9 H1 locs ht hvm hw9 hB hz1 hk1 hS => ?_)
    obtain rfl : H = H1 := hB.symm.trans ht
    have hw9 : r_3 = 0 := hw9
    subst hw9
    clear hPc hz1 hk1 hB
    refine lv_iload hx hb d_law_1729 (lv_at hl 1 rfl) ?_
    refine lv_icmp_eq (tgt := 1736) hx hb d_law_1731 (by decide) (fun c_4 => ?_) (fun c_4 => ?_)
    · -- taken
      refine lv_iload hx hb d_law_1736 (lv_at hl 1 rfl) ?_
      refine lv_if_ne (tgt := 1752) hx hb d_law_1738 (by decide) (fun c_5 => ?_) (fun c_5 => ?_)
      · -- taken
        exact absurd rfl c_5
      · -- not taken
        refine lv_aload_n hx hb d_law_1741 rfl (lv_at hl 3 rfl) ?_
        refine lv_iconst (v := 0) hx hb d_law_1742 (by decide) ?_
        refine va_lald hx hb hK hP 0 0 rfl rfl (vp_lit rfl) d_law_1743 ?_
        refine lv_topl (fun v_6 ev_6 => ?_)
        obtain rfl : v_6 = Lk u9.1 u9.2 := ev_6.trans rfl
        refine lv_lload hx hb d_law_1744 (lv_at hl 0 rfl) ?_
        refine W.lcmp hx hb d_law_1746 ?_
        refine lv_if_eq (tgt := 1752) hx hb d_law_1747 (by decide) (fun c_7 => ?_) (fun c_7 => ?_)
        · -- taken
          refine lv_goto (tgt := 1965) hx hb d_law_1752 (by decide) ?_
          refine W.widen (k := cells + 20) (n := slots + 200) (by omega) (by omega) ?_
          have hI9 : LI dC dI cJ cI cR A out b0 m0 H := LG.mk hP hD hR
          exact cont _ _ _ hS hI9 (lv_sub hl [2, 3, 4, 5, 6] rfl)
        · -- not taken
          exact absurd (lgc (hcfR _ hk _ hJ).symm) c_7
    · -- not taken
      exact absurd c_4 (by decide)
  refine lv_aload_n hx hb d_law_1688 rfl (lv_at hl 3 rfl) ?_
  refine lv_aload_n hx hb d_law_1689 rfl (lv_at hl 4 rfl) ?_
  refine lv_iload hx hb d_law_1690 (lv_at hl 0 rfl) ?_
  refine lv_iconst (v := 1) hx hb d_law_1692 (by decide) ?_
  refine lv_iadd hx hb d_law_1693 ?_
  rw [show ((nI i) + 1 : Int32) = nI (i + 1) from nI_add _ 1]
  refine va_sld hx hb hX hbl hbA hS (vp_in_nI (by omega) (by omega)) d_law_1694 ?_
  rw [show (xs (nI (i + 1)).toNatClampNeg : Int32) = xs (i + 1) from by rw [nI_clamp (by omega)]]
  rw [show (xs (i + 1) : Int32) = x1 from hx1.symm]
  refine lv_aload_n hx hb d_law_1695 rfl (lv_at hl 4 rfl) ?_
  refine lv_iload hx hb d_law_1696 (lv_at hl 0 rfl) ?_
  refine lv_iconst (v := 2) hx hb d_law_1698 (by decide) ?_
  refine lv_iadd hx hb d_law_1699 ?_
  rw [show ((nI i) + 2 : Int32) = nI (i + 2) from nI_add _ 2]
  refine va_sld hx hb hX hbl hbA hS (vp_in_nI (by omega) (by omega)) d_law_1700 ?_
  rw [show (xs (nI (i + 2)).toNatClampNeg : Int32) = xs (i + 2) from by rw [nI_clamp (by omega)]]
  rw [show (xs (i + 2) : Int32) = x2 from hx2.symm]
  refine lv_aload_n hx hb d_law_1701 rfl (lv_at hl 1 rfl) ?_
  have hPc := hP.part (cx := (jw_ws out cJ 1 of ++ (bb_ws b0 bd0 pr0 t0 au0 da (.ref g0) ++ bd_ws bd0 h0 ro lo n cR (rrf rb) (rrf lb)))) [0, 1, 3, 4, 5] rfl
  have hDc := hD.part (cx := (jw_ws out cJ 1 of ++ (bb_ws b0 bd0 pr0 t0 au0 da (.ref g0) ++ bd_ws bd0 h0 ro lo n cR (rrf rb) (rrf lb)))) [0, 1, 3, 4, 5] (by decide) rfl
  have hKc := hK.sub (tys' := [(cJ, .long), (cI, .int), (cR, .array .long)]) [0, 1, 2] rfl
  have hFc := va_freeP (cx := (jw_ws out cJ 1 of ++ (bb_ws b0 bd0 pr0 t0 au0 da (.ref g0) ++ bd_ws bd0 h0 ro lo n cR (rrf rb) (rrf lb)))) hD hS hA [0, 1, 3, 4, 5] rfl
  have hZc0 : xz (va_A ((jw_ws out cJ 1 of ++ (bb_ws b0 bd0 pr0 t0 au0 da (.ref g0) ++ bd_ws bd0 h0 ro lo n cR (rrf rb) (rrf lb))) ++ bpool rb lb cJ R Lk) H.size) s H := (hZx.kept hS.2.1).narrow hFc
  have hZc1 : nc_Z s := hZn
  refine vx_calli (vx_runSX (hh := h_Lw_chain) (As := [.ref b0, .int x1, .int x2, .ref out]) (rest := []) ⟨hx, hb, hml, hown, hts⟩ (c_Lw_chain_1 l hnt dC dI cJ cI cR H.size b0 bd0 pr0 t0 au0 da (.ref g0) h0 ro lo n rb lb (t_tn T) kd wh R Lk x1 x2 out of hwf hC) (vx_cwSW 4 hts (gw_Sv gk_767 gk_768 gk_0 gk_769) rfl rfl rfl (by decide +kernel) ⟨(Nat.le_of_ble_eq_true rfl), (Nat.le_of_ble_eq_true rfl)⟩) ⟨fun a U g mk q => by obtain ⟨q0, q1, qP, qK, qD, qZ0, qZ1⟩ := q; exact ⟨q0, q1, qP, va_K.moved (u := U) (U := U.calling g mk a) (Vm.Alike.refl U.vm) qK, qD, xz.same (u := U) (U := U.calling g mk a) rfl qZ0, nc_Z.moved (u := U) (U := U.calling g mk a) (Vm.Alike.refl U.vm) qZ1⟩, fun U hU hW => ⟨rfl, by rw [hU], by rw [hU]; exact hPc, va_K.moved hW.alike hKc, hDc.weaken (fun _ _ _ _ => trivial), by rw [hU]; exact xz.warm hW hZc0, nc_Z.moved hW.alike hZc1⟩⟩ rfl rfl hl.1 rfl (lv_room (Nat.le_of_ble_eq_true rfl)) d_law_1702 ⟨show cells + 8 ≤ 601024 by omega, show slots + 48 ≤ 7293034 by omega⟩) hS (fun q _ h => hFc q h) hFc (fun q _ h => hFc q h) (fun E9 ce9 q9 u8 t9 H1 locs ht hvm hpx hbx hz1 hk1 hS hce hcv hcl => hpx.elim) (fun r_8 u9 t9 H1 locs ht hvm hw hB hz1 hk1 hS => ?_)
  obtain ⟨hP1, hK1, hD1⟩ := hB
  rw [ht] at hP1
  obtain ⟨hP, hD⟩ := va_joinP (X := (jw_ws out cJ 1 of ++ (bb_ws b0 bd0 pr0 t0 au0 da (.ref g0) ++ (rw_ws da cJ (r8 d0 d1 d2 d3 d4 d5 d6 d7) ++ (bd_ws bd0 h0 ro lo n cR (rrf rb) (rrf lb) ++ (pr_ws pr0 h0 cm cJ ccf ++ (ha_ws h0 aw ax ay cJ cI w csc cst cL ++ (tt_ws t0 ka aa ba sa (.ref g0) cJ T ++ (au_ws au0 bd0 pr0 tu0 sd ++ (tt_ws tu0 uka uaa uba usa gu cJ T0 ++ (gp_ws g0 mF mE P f1 k1 Q f2 k2 G ++ (mo_ws m0 e0 (nI (t_tn T)) (nI n) (nI (t_bc T)) (lN P) (lN Q) (lN G) (lN (ckey (t_tn T) (t_kc T) (t_kp T))) (lN (t_pa T)) (lN (t_pb T)) (t_sht T) a0 a1 a2 a3 a4 a5 a6 a7 a8 a9 mb0 mb1 oc mb2 mb3 mb4 mb5 ++ (iw_ws a7 cI 256 bf ++ (iw_ws a8 cI 64 sc ++ (iw_ws a9 cI 8 st ++ (iw_ws mb0 cI 8 kS ++ (iw_ws mb1 cI 64 kR ++ (jw_ws a2 cJ 4 tf ++ (jw_ws a0 cJ 1232 nf ++ (jw_ws a1 cJ 616 cf ++ (iw_ws a4 cI 4 kf ++ (jw_ws mb2 cJ 4 ky ++ (jw_ws a3 cJ 16 lf ++ (iw_ws a5 cI 4 sf ++ (iw_ws a6 cI 64 vf ++ (jw_ws mb3 cJ 128 md ++ (jw_ws mb4 cJ 4 sh ++ iw_ws mb5 cI 64 ct))))))))))))))))))))))))))) (cx := (jw_ws out cJ 1 of ++ (bb_ws b0 bd0 pr0 t0 au0 da (.ref g0) ++ bd_ws bd0 h0 ro lo n cR (rrf rb) (rrf lb)))) (wr := (rw_ws da cJ (r8 d0 d1 d2 d3 d4 d5 d6 d7) ++ (pr_ws pr0 h0 cm cJ ccf ++ (ha_ws h0 aw ax ay cJ cI w csc cst cL ++ (tt_ws t0 ka aa ba sa (.ref g0) cJ T ++ (au_ws au0 bd0 pr0 tu0 sd ++ (tt_ws tu0 uka uaa uba usa gu cJ T0 ++ (gp_ws g0 mF mE P f1 k1 Q f2 k2 G ++ (mo_ws m0 e0 (nI (t_tn T)) (nI n) (nI (t_bc T)) (lN P) (lN Q) (lN G) (lN (ckey (t_tn T) (t_kc T) (t_kp T))) (lN (t_pa T)) (lN (t_pb T)) (t_sht T) a0 a1 a2 a3 a4 a5 a6 a7 a8 a9 mb0 mb1 oc mb2 mb3 mb4 mb5 ++ (iw_ws a7 cI 256 bf ++ (iw_ws a8 cI 64 sc ++ (iw_ws a9 cI 8 st ++ (iw_ws mb0 cI 8 kS ++ (iw_ws mb1 cI 64 kR ++ (jw_ws a2 cJ 4 tf ++ (jw_ws a0 cJ 1232 nf ++ (jw_ws a1 cJ 616 cf ++ (iw_ws a4 cI 4 kf ++ (jw_ws mb2 cJ 4 ky ++ (jw_ws a3 cJ 16 lf ++ (iw_ws a5 cI 4 sf ++ (iw_ws a6 cI 64 vf ++ (jw_ws mb3 cJ 128 md ++ (jw_ws mb4 cJ 4 sh ++ iw_ws mb5 cI 64 ct)))))))))))))))))))))))) (rx := (jw_ws out cJ 1 of ++ (bb_ws b0 bd0 pr0 t0 au0 da (.ref g0) ++ bd_ws bd0 h0 ro lo n cR (rrf rb) (rrf lb)))) (pl := bpool rb lb cJ R Lk) (pl1 := bpool rb lb cJ R Lk) hP hD [0, 1, 3, 4, 5] [2, 6, 7, 8, 9, 10, 11, 12, 13, 14, 15, 16, 17, 18, 19, 20, 21, 22, 23, 24, 25, 26, 27, 28, 29, 30, 31, 32, 33, 34, 35, 36, 37, 38, 39, 40, 41, 42] rfl rfl (by decide) (by decide) hk1 hFc hP1 hD1
  have hP := hP.part (cx := (jw_ws out cJ 1 of ++ (bb_ws b0 bd0 pr0 t0 au0 da (.ref g0) ++ (rw_ws da cJ (r8 d0 d1 d2 d3 d4 d5 d6 d7) ++ (bd_ws bd0 h0 ro lo n cR (rrf rb) (rrf lb) ++ (pr_ws pr0 h0 cm cJ ccf ++ (ha_ws h0 aw ax ay cJ cI w csc cst cL ++ (tt_ws t0 ka aa ba sa (.ref g0) cJ T ++ (au_ws au0 bd0 pr0 tu0 sd ++ (tt_ws tu0 uka uaa uba usa gu cJ T0 ++ (gp_ws g0 mF mE P f1 k1 Q f2 k2 G ++ (mo_ws m0 e0 (nI (t_tn T)) (nI n) (nI (t_bc T)) (lN P) (lN Q) (lN G) (lN (ckey (t_tn T) (t_kc T) (t_kp T))) (lN (t_pa T)) (lN (t_pb T)) (t_sht T) a0 a1 a2 a3 a4 a5 a6 a7 a8 a9 mb0 mb1 oc mb2 mb3 mb4 mb5 ++ (iw_ws a7 cI 256 bf ++ (iw_ws a8 cI 64 sc ++ (iw_ws a9 cI 8 st ++ (iw_ws mb0 cI 8 kS ++ (iw_ws mb1 cI 64 kR ++ (jw_ws a2 cJ 4 tf ++ (jw_ws a0 cJ 1232 nf ++ (jw_ws a1 cJ 616 cf ++ (iw_ws a4 cI 4 kf ++ (jw_ws mb2 cJ 4 ky ++ (jw_ws a3 cJ 16 lf ++ (iw_ws a5 cI 4 sf ++ (iw_ws a6 cI 64 vf ++ (jw_ws mb3 cJ 128 md ++ (jw_ws mb4 cJ 4 sh ++ iw_ws mb5 cI 64 ct))))))))))))))))))))))))))) [38, 39, 0, 40, 41, 42, 1, 2, 3, 4, 5, 6, 7, 8, 9, 10, 11, 12, 13, 14, 15, 16, 17, 18, 19, 20, 21, 22, 23, 24, 25, 26, 27, 28, 29, 30, 31, 32, 33, 34, 35, 36, 37] rfl
  have hD := hD.part (cx := (jw_ws out cJ 1 of ++ (bb_ws b0 bd0 pr0 t0 au0 da (.ref g0) ++ (rw_ws da cJ (r8 d0 d1 d2 d3 d4 d5 d6 d7) ++ (bd_ws bd0 h0 ro lo n cR (rrf rb) (rrf lb) ++ (pr_ws pr0 h0 cm cJ ccf ++ (ha_ws h0 aw ax ay cJ cI w csc cst cL ++ (tt_ws t0 ka aa ba sa (.ref g0) cJ T ++ (au_ws au0 bd0 pr0 tu0 sd ++ (tt_ws tu0 uka uaa uba usa gu cJ T0 ++ (gp_ws g0 mF mE P f1 k1 Q f2 k2 G ++ (mo_ws m0 e0 (nI (t_tn T)) (nI n) (nI (t_bc T)) (lN P) (lN Q) (lN G) (lN (ckey (t_tn T) (t_kc T) (t_kp T))) (lN (t_pa T)) (lN (t_pb T)) (t_sht T) a0 a1 a2 a3 a4 a5 a6 a7 a8 a9 mb0 mb1 oc mb2 mb3 mb4 mb5 ++ (iw_ws a7 cI 256 bf ++ (iw_ws a8 cI 64 sc ++ (iw_ws a9 cI 8 st ++ (iw_ws mb0 cI 8 kS ++ (iw_ws mb1 cI 64 kR ++ (jw_ws a2 cJ 4 tf ++ (jw_ws a0 cJ 1232 nf ++ (jw_ws a1 cJ 616 cf ++ (iw_ws a4 cI 4 kf ++ (jw_ws mb2 cJ 4 ky ++ (jw_ws a3 cJ 16 lf ++ (iw_ws a5 cI 4 sf ++ (iw_ws a6 cI 64 vf ++ (jw_ws mb3 cJ 128 md ++ (jw_ws mb4 cJ 4 sh ++ iw_ws mb5 cI 64 ct))))))))))))))))))))))))))) [38, 39, 0, 40, 41, 42, 1, 2, 3, 4, 5, 6, 7, 8, 9, 10, 11, 12, 13, 14, 15, 16, 17, 18, 19, 20, 21, 22, 23, 24, 25, 26, 27, 28, 29, 30, 31, 32, 33, 34, 35, 36, 37] (by decide) rfl
  generalize H1 = H at hP hS ⊢
  clear hPc hDc hFc hP1 hD1 hK1 ht hk1 hz1
  have hr9 : r_8 = 1 := hw
  subst hr9
  refine lv_istore (lv' := [(5, .int 1), (4, .int (nI i)), (3, .ref out), (2, .ref m0), (1, .ref b0), (0, .ref b)]) hx hb d_law_1705 hl (by decide) rfl (fun ls hl => ?_)
  refine lv_aload_n hx hb d_law_1707 rfl (lv_at hl 3 rfl) ?_
  refine lv_aload_n hx hb d_law_1708 rfl (lv_at hl 5 rfl) ?_
  refine lv_iload hx hb d_law_1709 (lv_at hl 1 rfl) ?_
  refine lv_iconst (v := 1) hx hb d_law_1711 (by decide) ?_
  refine lv_iadd hx hb d_law_1712 ?_
  rw [show ((nI i) + 1 : Int32) = nI (i + 1) from nI_add _ 1]
  refine va_sld hx hb hX hbl hbA hS (vp_in_nI (by omega) (by omega)) d_law_1713 ?_
  rw [show (xs (nI (i + 1)).toNatClampNeg : Int32) = xs (i + 1) from by rw [nI_clamp (by omega)]]
  rw [show (xs (i + 1) : Int32) = x1 from hx1.symm]
  refine lv_aload_n hx hb d_law_1714 rfl (lv_at hl 5 rfl) ?_
  refine lv_iload hx hb d_law_1715 (lv_at hl 1 rfl) ?_
  refine lv_iconst (v := 2) hx hb d_law_1717 (by decide) ?_
  refine lv_iadd hx hb d_law_1718 ?_
  rw [show ((nI i) + 2 : Int32) = nI (i + 2) from nI_add _ 2]
  refine va_sld hx hb hX hbl hbA hS (vp_in_nI (by omega) (by omega)) d_law_1719 ?_
  rw [show (xs (nI (i + 2)).toNatClampNeg : Int32) = xs (i + 2) from by rw [nI_clamp (by omega)]]
  rw [show (xs (i + 2) : Int32) = x2 from hx2.symm]
  have hPc := hP.sub (ws' := (mo_ws m0 e0 (nI (t_tn T)) (nI n) (nI (t_bc T)) (lN P) (lN Q) (lN G) (lN (ckey (t_tn T) (t_kc T) (t_kp T))) (lN (t_pa T)) (lN (t_pb T)) (t_sht T) a0 a1 a2 a3 a4 a5 a6 a7 a8 a9 mb0 mb1 oc mb2 mb3 mb4 mb5 ++ jw_ws a1 cJ 616 cf)) [26, 34] rfl
  have hDc := hD.sub (ws' := (mo_ws m0 e0 (nI (t_tn T)) (nI n) (nI (t_bc T)) (lN P) (lN Q) (lN G) (lN (ckey (t_tn T) (t_kc T) (t_kp T))) (lN (t_pa T)) (lN (t_pb T)) (t_sht T) a0 a1 a2 a3 a4 a5 a6 a7 a8 a9 mb0 mb1 oc mb2 mb3 mb4 mb5 ++ jw_ws a1 cJ 616 cf)) [26, 34] (by decide) rfl
  have hKc := hK.sub (tys' := [(cJ, .long), (cI, .int)]) [0, 1] rfl
  have hFc := va_free (wc := (mo_ws m0 e0 (nI (t_tn T)) (nI n) (nI (t_bc T)) (lN P) (lN Q) (lN G) (lN (ckey (t_tn T) (t_kc T) (t_kp T))) (lN (t_pa T)) (lN (t_pb T)) (t_sht T) a0 a1 a2 a3 a4 a5 a6 a7 a8 a9 mb0 mb1 oc mb2 mb3 mb4 mb5 ++ jw_ws a1 cJ 616 cf)) hD hS hA [26, 34] rfl
  refine va_calll (va_runV (As := [.int x1, .int x2]) (rest := []) ⟨hx, hb, hml, hown, hts⟩ (c_Bm_chain_1 l dC dI cJ cI H.size m0 e0 (t_tn T) n (t_bc T) P Q G (ckey (t_tn T) (t_kc T) (t_kp T)) (t_pa T) (t_pb T) (t_sht T) a0 a1 a2 a3 a4 a5 a6 a7 a8 a9 mb0 mb1 oc mb2 mb3 mb4 mb5 cf x1 x2 hn hC) (cwV 2 hts (gw_V gk_1182 gk_1183 gk_1184 gk_7 gk_1185) rfl rfl rfl (by decide +kernel) ⟨(Nat.le_of_ble_eq_true rfl), (Nat.le_of_ble_eq_true rfl)⟩) ⟨fun a U g mk q => by obtain ⟨q0, q1, qP, qK, qD⟩ := q; exact ⟨q0, q1, qP, va_K.moved (u := U) (U := U.calling g mk a) (Vm.Alike.refl U.vm) qK, qD⟩, va_recv hK hP (ci := 8) (q0 := 26) rfl rfl, fun U hU hW => ⟨rfl, by rw [hU], by rw [hU]; exact hPc, va_K.moved hW.alike hKc, hDc.weaken (fun _ _ _ _ => trivial)⟩⟩ rfl rfl hl.1 rfl (lv_room (Nat.le_of_ble_eq_true rfl)) d_law_1720 ⟨show cells + 8 + 0 ≤ 601024 by omega, show slots + 48 + 0 ≤ 7293034 by omega⟩) hS (fun q _ h => hFc q h) hFc (fun r_9 v9 t9 H1 locs ht hvm hw hB hz1 hk1 hS => ?_)
  obtain ⟨hP1, hK1, hD1⟩ := hB
  rw [ht] at hP1
  obtain ⟨hP, hD⟩ := va_joinQ (X := (jw_ws out cJ 1 of ++ (bb_ws b0 bd0 pr0 t0 au0 da (.ref g0) ++ (rw_ws da cJ (r8 d0 d1 d2 d3 d4 d5 d6 d7) ++ (bd_ws bd0 h0 ro lo n cR (rrf rb) (rrf lb) ++ (pr_ws pr0 h0 cm cJ ccf ++ (ha_ws h0 aw ax ay cJ cI w csc cst cL ++ (tt_ws t0 ka aa ba sa (.ref g0) cJ T ++ (au_ws au0 bd0 pr0 tu0 sd ++ (tt_ws tu0 uka uaa uba usa gu cJ T0 ++ (gp_ws g0 mF mE P f1 k1 Q f2 k2 G ++ (mo_ws m0 e0 (nI (t_tn T)) (nI n) (nI (t_bc T)) (lN P) (lN Q) (lN G) (lN (ckey (t_tn T) (t_kc T) (t_kp T))) (lN (t_pa T)) (lN (t_pb T)) (t_sht T) a0 a1 a2 a3 a4 a5 a6 a7 a8 a9 mb0 mb1 oc mb2 mb3 mb4 mb5 ++ (iw_ws a7 cI 256 bf ++ (iw_ws a8 cI 64 sc ++ (iw_ws a9 cI 8 st ++ (iw_ws mb0 cI 8 kS ++ (iw_ws mb1 cI 64 kR ++ (jw_ws a2 cJ 4 tf ++ (jw_ws a0 cJ 1232 nf ++ (jw_ws a1 cJ 616 cf ++ (iw_ws a4 cI 4 kf ++ (jw_ws mb2 cJ 4 ky ++ (jw_ws a3 cJ 16 lf ++ (iw_ws a5 cI 4 sf ++ (iw_ws a6 cI 64 vf ++ (jw_ws mb3 cJ 128 md ++ (jw_ws mb4 cJ 4 sh ++ iw_ws mb5 cI 64 ct))))))))))))))))))))))))))) (cx := (mo_ws m0 e0 (nI (t_tn T)) (nI n) (nI (t_bc T)) (lN P) (lN Q) (lN G) (lN (ckey (t_tn T) (t_kc T) (t_kp T))) (lN (t_pa T)) (lN (t_pb T)) (t_sht T) a0 a1 a2 a3 a4 a5 a6 a7 a8 a9 mb0 mb1 oc mb2 mb3 mb4 mb5 ++ jw_ws a1 cJ 616 cf)) (wr := (jw_ws out cJ 1 of ++ (bb_ws b0 bd0 pr0 t0 au0 da (.ref g0) ++ (rw_ws da cJ (r8 d0 d1 d2 d3 d4 d5 d6 d7) ++ (bd_ws bd0 h0 ro lo n cR (rrf rb) (rrf lb) ++ (pr_ws pr0 h0 cm cJ ccf ++ (ha_ws h0 aw ax ay cJ cI w csc cst cL ++ (tt_ws t0 ka aa ba sa (.ref g0) cJ T ++ (au_ws au0 bd0 pr0 tu0 sd ++ (tt_ws tu0 uka uaa uba usa gu cJ T0 ++ (gp_ws g0 mF mE P f1 k1 Q f2 k2 G ++ (iw_ws a7 cI 256 bf ++ (iw_ws a8 cI 64 sc ++ (iw_ws a9 cI 8 st ++ (iw_ws mb0 cI 8 kS ++ (iw_ws mb1 cI 64 kR ++ (jw_ws a2 cJ 4 tf ++ (jw_ws a0 cJ 1232 nf ++ (iw_ws a4 cI 4 kf ++ (jw_ws mb2 cJ 4 ky ++ (jw_ws a3 cJ 16 lf ++ (iw_ws a5 cI 4 sf ++ (iw_ws a6 cI 64 vf ++ (jw_ws mb3 cJ 128 md ++ (jw_ws mb4 cJ 4 sh ++ iw_ws mb5 cI 64 ct))))))))))))))))))))))))) (w1 := (mo_ws m0 1 (nI (t_tn T)) (nI n) (nI (t_bc T)) (lN P) (lN Q) (lN G) (lN (ckey (t_tn T) (t_kc T) (t_kp T))) (lN (t_pa T)) (lN (t_pb T)) (t_sht T) a0 a1 a2 a3 a4 a5 a6 a7 a8 a9 mb0 mb1 oc mb2 mb3 mb4 mb5 ++ jw_ws a1 cJ 616 cf)) (pl := bpool rb lb cJ R Lk) hP hD [26, 34] [0, 1, 2, 3, 4, 5, 6, 7, 8, 9, 10, 11, 12, 13, 14, 15, 16, 17, 18, 19, 20, 21, 22, 23, 24, 25, 27, 28, 29, 30, 31, 32, 33, 35, 36, 37, 38, 39, 40, 41, 42] rfl rfl (by decide) (by decide) hk1 hFc hP1 hD1
  have hP := hP.part (cx := (jw_ws out cJ 1 of ++ (bb_ws b0 bd0 pr0 t0 au0 da (.ref g0) ++ (rw_ws da cJ (r8 d0 d1 d2 d3 d4 d5 d6 d7) ++ (bd_ws bd0 h0 ro lo n cR (rrf rb) (rrf lb) ++ (pr_ws pr0 h0 cm cJ ccf ++ (ha_ws h0 aw ax ay cJ cI w csc cst cL ++ (tt_ws t0 ka aa ba sa (.ref g0) cJ T ++ (au_ws au0 bd0 pr0 tu0 sd ++ (tt_ws tu0 uka uaa uba usa gu cJ T0 ++ (gp_ws g0 mF mE P f1 k1 Q f2 k2 G ++ (mo_ws m0 1 (nI (t_tn T)) (nI n) (nI (t_bc T)) (lN P) (lN Q) (lN G) (lN (ckey (t_tn T) (t_kc T) (t_kp T))) (lN (t_pa T)) (lN (t_pb T)) (t_sht T) a0 a1 a2 a3 a4 a5 a6 a7 a8 a9 mb0 mb1 oc mb2 mb3 mb4 mb5 ++ (iw_ws a7 cI 256 bf ++ (iw_ws a8 cI 64 sc ++ (iw_ws a9 cI 8 st ++ (iw_ws mb0 cI 8 kS ++ (iw_ws mb1 cI 64 kR ++ (jw_ws a2 cJ 4 tf ++ (jw_ws a0 cJ 1232 nf ++ (jw_ws a1 cJ 616 cf ++ (iw_ws a4 cI 4 kf ++ (jw_ws mb2 cJ 4 ky ++ (jw_ws a3 cJ 16 lf ++ (iw_ws a5 cI 4 sf ++ (iw_ws a6 cI 64 vf ++ (jw_ws mb3 cJ 128 md ++ (jw_ws mb4 cJ 4 sh ++ iw_ws mb5 cI 64 ct))))))))))))))))))))))))))) [0, 1, 2, 3, 4, 5, 6, 7, 8, 9, 10, 11, 12, 13, 14, 15, 16, 17, 18, 19, 20, 21, 22, 23, 24, 25, 41, 26, 27, 28, 29, 30, 31, 32, 42, 33, 34, 35, 36, 37, 38, 39, 40] rfl
  have hD := hD.part (cx := (jw_ws out cJ 1 of ++ (bb_ws b0 bd0 pr0 t0 au0 da (.ref g0) ++ (rw_ws da cJ (r8 d0 d1 d2 d3 d4 d5 d6 d7) ++ (bd_ws bd0 h0 ro lo n cR (rrf rb) (rrf lb) ++ (pr_ws pr0 h0 cm cJ ccf ++ (ha_ws h0 aw ax ay cJ cI w csc cst cL ++ (tt_ws t0 ka aa ba sa (.ref g0) cJ T ++ (au_ws au0 bd0 pr0 tu0 sd ++ (tt_ws tu0 uka uaa uba usa gu cJ T0 ++ (gp_ws g0 mF mE P f1 k1 Q f2 k2 G ++ (mo_ws m0 1 (nI (t_tn T)) (nI n) (nI (t_bc T)) (lN P) (lN Q) (lN G) (lN (ckey (t_tn T) (t_kc T) (t_kp T))) (lN (t_pa T)) (lN (t_pb T)) (t_sht T) a0 a1 a2 a3 a4 a5 a6 a7 a8 a9 mb0 mb1 oc mb2 mb3 mb4 mb5 ++ (iw_ws a7 cI 256 bf ++ (iw_ws a8 cI 64 sc ++ (iw_ws a9 cI 8 st ++ (iw_ws mb0 cI 8 kS ++ (iw_ws mb1 cI 64 kR ++ (jw_ws a2 cJ 4 tf ++ (jw_ws a0 cJ 1232 nf ++ (jw_ws a1 cJ 616 cf ++ (iw_ws a4 cI 4 kf ++ (jw_ws mb2 cJ 4 ky ++ (jw_ws a3 cJ 16 lf ++ (iw_ws a5 cI 4 sf ++ (iw_ws a6 cI 64 vf ++ (jw_ws mb3 cJ 128 md ++ (jw_ws mb4 cJ 4 sh ++ iw_ws mb5 cI 64 ct))))))))))))))))))))))))))) [0, 1, 2, 3, 4, 5, 6, 7, 8, 9, 10, 11, 12, 13, 14, 15, 16, 17, 18, 19, 20, 21, 22, 23, 24, 25, 41, 26, 27, 28, 29, 30, 31, 32, 42, 33, 34, 35, 36, 37, 38, 39, 40] (by decide) rfl
  generalize H1 = H at hP hS ⊢
  clear hPc hDc hFc hP1 hD1 hK1 ht hk1 hz1
  refine lv_lstore (lv' := [(6, .long r_9), (5, .int 1), (4, .int (nI i)), (3, .ref out), (2, .ref m0), (1, .ref b0), (0, .ref b)]) hx hb d_law_1723 hl (by decide) rfl (fun ls hl => ?_)
  refine lv_aload_n hx hb d_law_1725 rfl (lv_at hl 4 rfl) ?_
  have hPc := hP.sub (ws' := (mo_ws m0 1 (nI (t_tn T)) (nI n) (nI (t_bc T)) (lN P) (lN Q) (lN G) (lN (ckey (t_tn T) (t_kc T) (t_kp T))) (lN (t_pa T)) (lN (t_pb T)) (t_sht T) a0 a1 a2 a3 a4 a5 a6 a7 a8 a9 mb0 mb1 oc mb2 mb3 mb4 mb5)) [26] rfl
  have hKc := hK.sub (tys' := [(cJ, .long), (cI, .int)]) [0, 1] rfl
  refine va_calli (va_runV (As := []) (rest := []) ⟨hx, hb, hml, hown, hts⟩ (c_Bm_thrown l H dC dI cJ cI m0 1 (nI (t_tn T)) (nI n) (nI (t_bc T)) (lN P) (lN Q) (lN G) (lN (ckey (t_tn T) (t_kc T) (t_kp T))) (lN (t_pa T)) (lN (t_pb T)) (t_sht T) a0 a1 a2 a3 a4 a5 a6 a7 a8 a9 mb0 mb1 oc mb2 mb3 mb4 mb5 hPc) (cwV 0 hts (gw_V gk_1004 gk_1005 gk_1006 gk_7 gk_1007) rfl rfl rfl (by decide +kernel) ⟨(Nat.le_of_ble_eq_true rfl), (Nat.le_of_ble_eq_true rfl)⟩) ⟨fun a U g mk q => ⟨q.1, q.2.1, va_K.moved (u := U) (U := U.calling g mk a) (Vm.Alike.refl U.vm) q.2.2⟩, va_recv hK hP (ci := 8) (q0 := 26) rfl rfl, fun U hU hW => ⟨rfl, hU, va_K.moved hW.alike hKc⟩⟩ rfl rfl hl.1 rfl (lv_room (Nat.le_of_ble_eq_true rfl)) d_law_1726 ⟨show cells + 8 + 0 + 0 ≤ 601024 by omega, show slots + 48 + 0 + 0 ≤ 7293034 by omega⟩) hS (fun q _ h => h.elim) (fun q h => h.elim) (fun r_10 w9 t9 H1 locs ht hvm hw9 hB hz1 hk1 hS => ?_)
  obtain rfl : H = H1 := hB.symm.trans ht
  have hw9 : r_10 = 1 := hw9
  subst hw9
  clear hPc hz1 hk1 hB
  refine lv_iload hx hb d_law_1729 (lv_at hl 1 rfl) ?_
  refine lv_icmp_eq (tgt := 1736) hx hb d_law_1731 (by decide) (fun c_11 => ?_) (fun c_11 => ?_)
  · -- taken
    refine lv_iload hx hb d_law_1736 (lv_at hl 1 rfl) ?_
    refine lv_if_ne (tgt := 1752) hx hb d_law_1738 (by decide) (fun c_12 => ?_) (fun c_12 => ?_)
    · -- taken
      refine lv_goto (tgt := 1965) hx hb d_law_1752 (by decide) ?_
      refine W.widen (k := cells + 20) (n := slots + 200) (by omega) (by omega) ?_
      have hI9 : LI dC dI cJ cI cR A out b0 m0 H := LG.mk hP hD hR
      exact cont _ _ _ hS hI9 (lv_sub hl [2, 3, 4, 5, 6] rfl)
    · -- not taken
      exact absurd c_12 (by decide)
  · -- not taken
    exact absurd c_11 (by decide)
