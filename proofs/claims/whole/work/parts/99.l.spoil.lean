theorem d_law_1755 : decode code 1755 = .ok (.aload_n 1, 1) := by decide +kernel
theorem d_law_1756 : decode code 1756 = .ok (.aload_n 0, 1) := by decide +kernel
theorem d_law_1757 : decode code 1757 = .ok (.iload 4, 2) := by decide +kernel
theorem d_law_1759 : decode code 1759 = .ok (.iconst 1, 1) := by decide +kernel
theorem d_law_1760 : decode code 1760 = .ok (.iadd, 1) := by decide +kernel
theorem d_law_1761 : decode code 1761 = .ok (.iaload, 1) := by decide +kernel
theorem d_law_1762 : decode code 1762 = .ok (.aload_n 0, 1) := by decide +kernel
theorem d_law_1763 : decode code 1763 = .ok (.iload 4, 2) := by decide +kernel
theorem d_law_1765 : decode code 1765 = .ok (.iconst 2, 1) := by decide +kernel
theorem d_law_1766 : decode code 1766 = .ok (.iadd, 1) := by decide +kernel
theorem d_law_1767 : decode code 1767 = .ok (.iaload, 1) := by decide +kernel
theorem d_law_1768 : decode code 1768 = .ok (.aload_n 0, 1) := by decide +kernel
theorem d_law_1769 : decode code 1769 = .ok (.iload 4, 2) := by decide +kernel
theorem d_law_1771 : decode code 1771 = .ok (.iconst 3, 1) := by decide +kernel
theorem d_law_1772 : decode code 1772 = .ok (.iadd, 1) := by decide +kernel
theorem d_law_1773 : decode code 1773 = .ok (.iaload, 1) := by decide +kernel
theorem d_law_1774 : decode code 1774 = .ok (.i2l, 1) := by decide +kernel
theorem d_law_1775 : decode code 1775 = .ok (.bipush 32, 2) := by decide +kernel
theorem d_law_1777 : decode code 1777 = .ok (.lshl, 1) := by decide +kernel
theorem d_law_1778 : decode code 1778 = .ok (.aload_n 0, 1) := by decide +kernel
theorem d_law_1779 : decode code 1779 = .ok (.iload 4, 2) := by decide +kernel
theorem d_law_1781 : decode code 1781 = .ok (.iconst 4, 1) := by decide +kernel
theorem d_law_1782 : decode code 1782 = .ok (.iadd, 1) := by decide +kernel
theorem d_law_1783 : decode code 1783 = .ok (.iaload, 1) := by decide +kernel
theorem d_law_1784 : decode code 1784 = .ok (.i2l, 1) := by decide +kernel
theorem d_law_1785 : decode code 1785 = .ok (.ldc2_w 70, 3) := by decide +kernel
theorem d_law_1788 : decode code 1788 = .ok (.land, 1) := by decide +kernel
theorem d_law_1789 : decode code 1789 = .ok (.lor, 1) := by decide +kernel
theorem d_law_1790 : decode code 1790 = .ok (.aload_n 3, 1) := by decide +kernel
theorem d_law_1791 : decode code 1791 = .ok (.invokestatic 117, 3) := by decide +kernel
theorem d_law_1794 : decode code 1794 = .ok (.istore 5, 2) := by decide +kernel
theorem d_law_1796 : decode code 1796 = .ok (.aload_n 2, 1) := by decide +kernel
theorem d_law_1797 : decode code 1797 = .ok (.aload_n 0, 1) := by decide +kernel
theorem d_law_1798 : decode code 1798 = .ok (.iload 4, 2) := by decide +kernel
theorem d_law_1800 : decode code 1800 = .ok (.iconst 1, 1) := by decide +kernel
theorem d_law_1801 : decode code 1801 = .ok (.iadd, 1) := by decide +kernel
theorem d_law_1802 : decode code 1802 = .ok (.iaload, 1) := by decide +kernel
theorem d_law_1803 : decode code 1803 = .ok (.aload_n 0, 1) := by decide +kernel
theorem d_law_1804 : decode code 1804 = .ok (.iload 4, 2) := by decide +kernel
theorem d_law_1806 : decode code 1806 = .ok (.iconst 2, 1) := by decide +kernel
theorem d_law_1807 : decode code 1807 = .ok (.iadd, 1) := by decide +kernel
theorem d_law_1808 : decode code 1808 = .ok (.iaload, 1) := by decide +kernel
theorem d_law_1809 : decode code 1809 = .ok (.aload_n 0, 1) := by decide +kernel
theorem d_law_1810 : decode code 1810 = .ok (.iload 4, 2) := by decide +kernel
theorem d_law_1812 : decode code 1812 = .ok (.iconst 3, 1) := by decide +kernel
theorem d_law_1813 : decode code 1813 = .ok (.iadd, 1) := by decide +kernel
theorem d_law_1814 : decode code 1814 = .ok (.iaload, 1) := by decide +kernel
theorem d_law_1815 : decode code 1815 = .ok (.i2l, 1) := by decide +kernel
theorem d_law_1816 : decode code 1816 = .ok (.bipush 32, 2) := by decide +kernel
theorem d_law_1818 : decode code 1818 = .ok (.lshl, 1) := by decide +kernel
theorem d_law_1819 : decode code 1819 = .ok (.aload_n 0, 1) := by decide +kernel
theorem d_law_1820 : decode code 1820 = .ok (.iload 4, 2) := by decide +kernel
theorem d_law_1822 : decode code 1822 = .ok (.iconst 4, 1) := by decide +kernel
theorem d_law_1823 : decode code 1823 = .ok (.iadd, 1) := by decide +kernel
theorem d_law_1824 : decode code 1824 = .ok (.iaload, 1) := by decide +kernel
theorem d_law_1825 : decode code 1825 = .ok (.i2l, 1) := by decide +kernel
theorem d_law_1826 : decode code 1826 = .ok (.ldc2_w 70, 3) := by decide +kernel
theorem d_law_1829 : decode code 1829 = .ok (.land, 1) := by decide +kernel
theorem d_law_1830 : decode code 1830 = .ok (.lor, 1) := by decide +kernel
theorem d_law_1831 : decode code 1831 = .ok (.invokevirtual 120, 3) := by decide +kernel
theorem d_law_1834 : decode code 1834 = .ok (.lstore 6, 2) := by decide +kernel
theorem d_law_1836 : decode code 1836 = .ok (.aload_n 2, 1) := by decide +kernel
theorem d_law_1837 : decode code 1837 = .ok (.invokevirtual 78, 3) := by decide +kernel
theorem d_law_1840 : decode code 1840 = .ok (.iload 5, 2) := by decide +kernel
theorem d_law_1842 : decode code 1842 = .ok (.if_icmp .eq 5, 3) := by decide +kernel
theorem d_law_1845 : decode code 1845 = .ok (.iconst 0, 1) := by decide +kernel
theorem d_law_1846 : decode code 1846 = .ok (.ireturn, 1) := by decide +kernel
theorem d_law_1847 : decode code 1847 = .ok (.iload 5, 2) := by decide +kernel
theorem d_law_1849 : decode code 1849 = .ok (.ifCond .ne 14, 3) := by decide +kernel
theorem d_law_1852 : decode code 1852 = .ok (.aload_n 3, 1) := by decide +kernel
theorem d_law_1853 : decode code 1853 = .ok (.iconst 0, 1) := by decide +kernel
theorem d_law_1854 : decode code 1854 = .ok (.laload, 1) := by decide +kernel
theorem d_law_1855 : decode code 1855 = .ok (.lload 6, 2) := by decide +kernel
theorem d_law_1857 : decode code 1857 = .ok (.lcmp, 1) := by decide +kernel
theorem d_law_1858 : decode code 1858 = .ok (.ifCond .eq 5, 3) := by decide +kernel
theorem d_law_1861 : decode code 1861 = .ok (.iconst 0, 1) := by decide +kernel
theorem d_law_1862 : decode code 1862 = .ok (.ireturn, 1) := by decide +kernel
theorem d_law_1863 : decode code 1863 = .ok (.goto 102, 3) := by decide +kernel
set_option maxHeartbeats 16000000 in
set_option maxRecDepth 100000 in
theorem bk_spoil_g {p : Program} {l : Launch} {e : Env} {s : State} {m : MethodId} {below : List Frame} {meth : Method} {c : Code} {b L : Nat} {xs : Nat → Int32} {dC : Nat → ClassId} {dI : Nat → Nat → Nat} {cJ cI cR : ClassId} {A : Nat → Prop} {out b0 m0 : Nat} {rA sA wA : Nat} (C : LC p l s m meth c b L xs dC dI cJ cI cR A rA sA wA) {i cells slots : Nat} (hi : i + 14 ≤ L) (hcs : cells + 20 ≤ 601024 ∧ slots + 200 ≤ 7293034) (cont : LK p l e s m below meth c b dC dI cJ cI cR A out b0 m0 i (cells + 20) (slots + 200) 1965) {H : Heap} {locs : List Loc} {ls : Array Slot} (hS : va_S A s.heap H locs) (hI : LG dC dI cJ cI cR A out b0 m0 H) (hl : lv_has ls 8 [(4, .int (nI i)), (3, .ref out), (2, .ref m0), (1, .ref b0), (0, .ref b)]) : W p l e room_1 s m #[Value.ref b] below meth c H locs cells slots (lw_Z below #[Value.ref b] s) (F0 m 1755 ls []) := by
  obtain ⟨hnt, ⟨hx, hb, hr, hml, hown, hts0, hX, hbl, hlocks, hgv⟩, hK, hA, hbA, hZha, hZx, hZn, hZw, hL⟩ := C
  have hown : s.vm.findClass "BallotBoardLaw" = some m.cls := hown
  have hts := lw_hts hts0
  refine hI _ (fun bd0 pr0 t0 au0 da h0 ro lo rb lb cm aw ax ay ka aa ba sa tu0 uka uaa uba usa a0 a1 a2 a3 a4 a5 a6 a7 a8 a9 mb0 mb1 oc mb2 mb3 mb4 mb5 cL of w tf nf cf ky lf md sh ccf csc cst bf sc st kf sf vf ct gu d0 d1 d2 d3 d4 d5 d6 d7 e0 R Lk g0 mF mE P f1 k1 Q f2 k2 G N n sd bc al pa pb cl T T0 kd wh hP hD hR => ?_)
  have q1 := hR.1.2.2.2.1.1
  subst q1
  have q2 := hR.2.2.2.1.1
  subst q2
  have q3 := hR.2.2.2.1.2.1
  subst q3
  have q4 := hR.2.2.2.1.2.2.1
  subst q4
  have q5 := hR.2.2.2.1.2.2.2.1
  subst q5
  have q6 := hR.2.2.2.1.2.2.2.2.1
  subst q6
  obtain ⟨⟨hok, htok, hN0, htn, hkc, hn⟩, ⟨hnO, hnS, hn0S, hn0B, hbc, hsc, hsh0⟩, ⟨hgr, hrk, hrs, hrb, hko, hkP⟩, ⟨hal, hclN, hky, hpa, hmd, haP, hbP⟩, ⟨hsP, hsp, hpb, hwf, hEI, hnfR, hcfR, hkf⟩, ⟨hnfk, hkq, hsd, hsn, hsdd, h0k, hkca⟩, ⟨hPQ, h61F, hQ3, hG2, hGP, hGQ⟩, hTt, hTt0, hRT⟩ := LG_facts hR
  obtain ⟨x1, hx1⟩ : ∃ v, v = xs (i + 1) := ⟨_, rfl⟩
  obtain ⟨x2, hx2⟩ : ∃ v, v = xs (i + 2) := ⟨_, rfl⟩
  obtain ⟨x3, hx3⟩ : ∃ v, v = jl (xs (i + 3)) (xs (i + 4)) := ⟨_, rfl⟩
  by_cases hC : hasS n kd x1 x2
  · -- it holds
    refine lv_aload_n hx hb d_law_1755 rfl (lv_at hl 3 rfl) ?_
    refine lv_aload_n hx hb d_law_1756 rfl (lv_at hl 4 rfl) ?_
    refine lv_iload hx hb d_law_1757 (lv_at hl 0 rfl) ?_
    refine lv_iconst (v := 1) hx hb d_law_1759 (by decide) ?_
    refine lv_iadd hx hb d_law_1760 ?_
    rw [show ((nI i) + 1 : Int32) = nI (i + 1) from nI_add _ 1]
    refine va_sld hx hb hX hbl hbA hS (vp_in_nI (by omega) (by omega)) d_law_1761 ?_
    rw [show (xs (nI (i + 1)).toNatClampNeg : Int32) = xs (i + 1) from by rw [nI_clamp (by omega)]]
    rw [show (xs (i + 1) : Int32) = x1 from hx1.symm]
    refine lv_aload_n hx hb d_law_1762 rfl (lv_at hl 4 rfl) ?_
    refine lv_iload hx hb d_law_1763 (lv_at hl 0 rfl) ?_
    refine lv_iconst (v := 2) hx hb d_law_1765 (by decide) ?_
    refine lv_iadd hx hb d_law_1766 ?_
    rw [show ((nI i) + 2 : Int32) = nI (i + 2) from nI_add _ 2]
    refine va_sld hx hb hX hbl hbA hS (vp_in_nI (by omega) (by omega)) d_law_1767 ?_
    rw [show (xs (nI (i + 2)).toNatClampNeg : Int32) = xs (i + 2) from by rw [nI_clamp (by omega)]]
    rw [show (xs (i + 2) : Int32) = x2 from hx2.symm]
    refine lv_aload_n hx hb d_law_1768 rfl (lv_at hl 4 rfl) ?_
    refine lv_iload hx hb d_law_1769 (lv_at hl 0 rfl) ?_
    refine lv_iconst (v := 3) hx hb d_law_1771 (by decide) ?_
    refine lv_iadd hx hb d_law_1772 ?_
    rw [show ((nI i) + 3 : Int32) = nI (i + 3) from nI_add _ 3]
    refine va_sld hx hb hX hbl hbA hS (vp_in_nI (by omega) (by omega)) d_law_1773 ?_
    rw [show (xs (nI (i + 3)).toNatClampNeg : Int32) = xs (i + 3) from by rw [nI_clamp (by omega)]]
    refine lv_i2l (v := (xs (i + 3) : Int32).toInt64) hx hb d_law_1774 rfl ?_
    refine lv_bipush (v := 32) hx hb d_law_1775 (by decide) ?_
    refine lv_lshl (v := ((xs (i + 3) : Int32).toInt64 : Int64) <<< ((32 : Int32).toInt64 &&& 63)) hx hb d_law_1777 rfl ?_
    refine lv_aload_n hx hb d_law_1778 rfl (lv_at hl 4 rfl) ?_
    refine lv_iload hx hb d_law_1779 (lv_at hl 0 rfl) ?_
    refine lv_iconst (v := 4) hx hb d_law_1781 (by decide) ?_
    refine lv_iadd hx hb d_law_1782 ?_
    rw [show ((nI i) + 4 : Int32) = nI (i + 4) from nI_add _ 4]
    refine va_sld hx hb hX hbl hbA hS (vp_in_nI (by omega) (by omega)) d_law_1783 ?_
    rw [show (xs (nI (i + 4)).toNatClampNeg : Int32) = xs (i + 4) from by rw [nI_clamp (by omega)]]
    refine lv_i2l (v := (xs (i + 4) : Int32).toInt64) hx hb d_law_1784 rfl ?_
    refine lv_ldc2 (v := 4294967295) hx hb hown (hts _ (List.mem_cons_of_mem _ gk_1202)) d_law_1785 ?_
    refine lv_land hx hb d_law_1788 ?_
    refine lv_lor hx hb d_law_1789 ?_
    rw [show ((((xs (i + 3) : Int32).toInt64 : Int64) <<< ((32 : Int32).toInt64 &&& 63)) ||| (((xs (i + 4) : Int32).toInt64) &&& 4294967295) : Int64) = x3 from hx3.symm]
    refine lv_aload_n hx hb d_law_1790 rfl (lv_at hl 1 rfl) ?_
    have hPc := hP.part (cx := (jw_ws out cJ 1 of ++ (bb_ws b0 bd0 pr0 t0 au0 da (.ref g0) ++ (bd_ws bd0 h0 ro lo n cR (rrf rb) (rrf lb) ++ au_ws au0 bd0 pr0 tu0 sd)))) [0, 1, 3, 4, 5, 17] rfl
    have hDc := hD.part (cx := (jw_ws out cJ 1 of ++ (bb_ws b0 bd0 pr0 t0 au0 da (.ref g0) ++ (bd_ws bd0 h0 ro lo n cR (rrf rb) (rrf lb) ++ au_ws au0 bd0 pr0 tu0 sd)))) [0, 1, 3, 4, 5, 17] (by decide) rfl
    have hKc := hK.sub (tys' := [(cJ, .long), (cI, .int), (cR, .array .long)]) [0, 1, 2] rfl
    have hFc := va_freeP (cx := (jw_ws out cJ 1 of ++ (bb_ws b0 bd0 pr0 t0 au0 da (.ref g0) ++ (bd_ws bd0 h0 ro lo n cR (rrf rb) (rrf lb) ++ au_ws au0 bd0 pr0 tu0 sd)))) hD hS hA [0, 1, 3, 4, 5, 17] rfl
    have hZc0 : xz (va_A ((jw_ws out cJ 1 of ++ (bb_ws b0 bd0 pr0 t0 au0 da (.ref g0) ++ (bd_ws bd0 h0 ro lo n cR (rrf rb) (rrf lb) ++ au_ws au0 bd0 pr0 tu0 sd))) ++ bpool rb lb cJ R Lk) H.size) s H := (hZx.kept hS.2.1).narrow hFc
    have hZc1 : nc_Z s := hZn
    refine vx_calli (vx_runSX (hh := h_Lw_spoil) (As := [.ref b0, .int x1, .int x2, .long x3, .ref out]) (rest := []) ⟨hx, hb, hml, hown, hts⟩ (c_Lw_spoil_0 l hnt dC dI cJ cI cR H.size b0 bd0 pr0 t0 au0 da (.ref g0) tu0 sd h0 ro lo n rb lb (t_tn T) kd wh R Lk x1 x2 x3 out of hwf hsd hC) (vx_cwSW 5 hts (gw_Sv gk_779 gk_780 gk_0 gk_781) rfl rfl rfl (by decide +kernel) ⟨(Nat.le_of_ble_eq_true rfl), (Nat.le_of_ble_eq_true rfl)⟩) ⟨fun a U g mk q => by obtain ⟨q0, q1, qP, qK, qD, qZ0, qZ1⟩ := q; exact ⟨q0, q1, qP, va_K.moved (u := U) (U := U.calling g mk a) (Vm.Alike.refl U.vm) qK, qD, xz.same (u := U) (U := U.calling g mk a) rfl qZ0, nc_Z.moved (u := U) (U := U.calling g mk a) (Vm.Alike.refl U.vm) qZ1⟩, fun U hU hW => ⟨rfl, by rw [hU], by rw [hU]; exact hPc, va_K.moved hW.alike hKc, hDc.weaken (fun _ _ _ _ => trivial), by rw [hU]; exact xz.warm hW hZc0, nc_Z.moved hW.alike hZc1⟩⟩ rfl rfl hl.1 rfl (lv_room (Nat.le_of_ble_eq_true rfl)) d_law_1791 ⟨show cells + 8 ≤ 601024 by omega, show slots + 48 ≤ 7293034 by omega⟩) hS (fun q _ h => hFc q h) hFc (fun q _ h => hFc q h) (fun E9 ce9 q9 u8 t9 H1 locs ht hvm hpx hbx hz1 hk1 hS hce hcv hcl => hpx.elim) (fun r_1 u9 t9 H1 locs ht hvm hw hB hz1 hk1 hS => ?_)
    obtain ⟨hP1, hK1, hD1⟩ := hB
    rw [ht] at hP1
    obtain ⟨hP, hD⟩ := va_joinP (X := (jw_ws out cJ 1 of ++ (bb_ws b0 bd0 pr0 t0 au0 da (.ref g0) ++ (rw_ws da cJ (r8 d0 d1 d2 d3 d4 d5 d6 d7) ++ (bd_ws bd0 h0 ro lo n cR (rrf rb) (rrf lb) ++ (pr_ws pr0 h0 cm cJ ccf ++ (ha_ws h0 aw ax ay cJ cI w csc cst cL ++ (tt_ws t0 ka aa ba sa (.ref g0) cJ T ++ (au_ws au0 bd0 pr0 tu0 sd ++ (tt_ws tu0 uka uaa uba usa gu cJ T0 ++ (gp_ws g0 mF mE P f1 k1 Q f2 k2 G ++ (mo_ws m0 e0 (nI (t_tn T)) (nI n) (nI (t_bc T)) (lN P) (lN Q) (lN G) (lN (ckey (t_tn T) (t_kc T) (t_kp T))) (lN (t_pa T)) (lN (t_pb T)) (t_sht T) a0 a1 a2 a3 a4 a5 a6 a7 a8 a9 mb0 mb1 oc mb2 mb3 mb4 mb5 ++ (iw_ws a7 cI 256 bf ++ (iw_ws a8 cI 64 sc ++ (iw_ws a9 cI 8 st ++ (iw_ws mb0 cI 8 kS ++ (iw_ws mb1 cI 64 kR ++ (jw_ws a2 cJ 4 tf ++ (jw_ws a0 cJ 1232 nf ++ (jw_ws a1 cJ 616 cf ++ (iw_ws a4 cI 4 kf ++ (jw_ws mb2 cJ 4 ky ++ (jw_ws a3 cJ 16 lf ++ (iw_ws a5 cI 4 sf ++ (iw_ws a6 cI 64 vf ++ (jw_ws mb3 cJ 128 md ++ (jw_ws mb4 cJ 4 sh ++ iw_ws mb5 cI 64 ct))))))))))))))))))))))))))) (cx := (jw_ws out cJ 1 of ++ (bb_ws b0 bd0 pr0 t0 au0 da (.ref g0) ++ (bd_ws bd0 h0 ro lo n cR (rrf rb) (rrf lb) ++ au_ws au0 bd0 pr0 tu0 sd)))) (wr := (rw_ws da cJ (r8 d0 d1 d2 d3 d4 d5 d6 d7) ++ (pr_ws pr0 h0 cm cJ ccf ++ (ha_ws h0 aw ax ay cJ cI w csc cst cL ++ (tt_ws t0 ka aa ba sa (.ref g0) cJ T ++ (tt_ws tu0 uka uaa uba usa gu cJ T0 ++ (gp_ws g0 mF mE P f1 k1 Q f2 k2 G ++ (mo_ws m0 e0 (nI (t_tn T)) (nI n) (nI (t_bc T)) (lN P) (lN Q) (lN G) (lN (ckey (t_tn T) (t_kc T) (t_kp T))) (lN (t_pa T)) (lN (t_pb T)) (t_sht T) a0 a1 a2 a3 a4 a5 a6 a7 a8 a9 mb0 mb1 oc mb2 mb3 mb4 mb5 ++ (iw_ws a7 cI 256 bf ++ (iw_ws a8 cI 64 sc ++ (iw_ws a9 cI 8 st ++ (iw_ws mb0 cI 8 kS ++ (iw_ws mb1 cI 64 kR ++ (jw_ws a2 cJ 4 tf ++ (jw_ws a0 cJ 1232 nf ++ (jw_ws a1 cJ 616 cf ++ (iw_ws a4 cI 4 kf ++ (jw_ws mb2 cJ 4 ky ++ (jw_ws a3 cJ 16 lf ++ (iw_ws a5 cI 4 sf ++ (iw_ws a6 cI 64 vf ++ (jw_ws mb3 cJ 128 md ++ (jw_ws mb4 cJ 4 sh ++ iw_ws mb5 cI 64 ct))))))))))))))))))))))) (rx := (jw_ws out cJ 1 (vp_updL of 0 (R u9.1 u9.2)) ++ (bb_ws b0 bd0 pr0 t0 au0 da (.ref g0) ++ (bd_ws bd0 h0 ro lo n cR (rrf rb) (rrf lb) ++ au_ws au0 bd0 pr0 tu0 (min sd u9.1))))) (pl := bpool rb lb cJ R Lk) (pl1 := bpool rb lb cJ (updF R u9.1 (vp_updL (R u9.1) u9.2 x3)) Lk) hP hD [0, 1, 3, 4, 5, 17] [2, 6, 7, 8, 9, 10, 11, 12, 13, 14, 15, 16, 18, 19, 20, 21, 22, 23, 24, 25, 26, 27, 28, 29, 30, 31, 32, 33, 34, 35, 36, 37, 38, 39, 40, 41, 42] rfl rfl (by decide) (by decide) hk1 hFc hP1 hD1
    have hP := hP.part (cx := (jw_ws out cJ 1 (vp_updL of 0 (R u9.1 u9.2)) ++ (bb_ws b0 bd0 pr0 t0 au0 da (.ref g0) ++ (rw_ws da cJ (r8 d0 d1 d2 d3 d4 d5 d6 d7) ++ (bd_ws bd0 h0 ro lo n cR (rrf rb) (rrf lb) ++ (pr_ws pr0 h0 cm cJ ccf ++ (ha_ws h0 aw ax ay cJ cI w csc cst cL ++ (tt_ws t0 ka aa ba sa (.ref g0) cJ T ++ (au_ws au0 bd0 pr0 tu0 (min sd u9.1) ++ (tt_ws tu0 uka uaa uba usa gu cJ T0 ++ (gp_ws g0 mF mE P f1 k1 Q f2 k2 G ++ (mo_ws m0 e0 (nI (t_tn T)) (nI n) (nI (t_bc T)) (lN P) (lN Q) (lN G) (lN (ckey (t_tn T) (t_kc T) (t_kp T))) (lN (t_pa T)) (lN (t_pb T)) (t_sht T) a0 a1 a2 a3 a4 a5 a6 a7 a8 a9 mb0 mb1 oc mb2 mb3 mb4 mb5 ++ (iw_ws a7 cI 256 bf ++ (iw_ws a8 cI 64 sc ++ (iw_ws a9 cI 8 st ++ (iw_ws mb0 cI 8 kS ++ (iw_ws mb1 cI 64 kR ++ (jw_ws a2 cJ 4 tf ++ (jw_ws a0 cJ 1232 nf ++ (jw_ws a1 cJ 616 cf ++ (iw_ws a4 cI 4 kf ++ (jw_ws mb2 cJ 4 ky ++ (jw_ws a3 cJ 16 lf ++ (iw_ws a5 cI 4 sf ++ (iw_ws a6 cI 64 vf ++ (jw_ws mb3 cJ 128 md ++ (jw_ws mb4 cJ 4 sh ++ iw_ws mb5 cI 64 ct))))))))))))))))))))))))))) [37, 38, 0, 39, 40, 41, 1, 2, 3, 4, 5, 6, 7, 8, 9, 10, 11, 42, 12, 13, 14, 15, 16, 17, 18, 19, 20, 21, 22, 23, 24, 25, 26, 27, 28, 29, 30, 31, 32, 33, 34, 35, 36] rfl
    have hD := hD.part (cx := (jw_ws out cJ 1 (vp_updL of 0 (R u9.1 u9.2)) ++ (bb_ws b0 bd0 pr0 t0 au0 da (.ref g0) ++ (rw_ws da cJ (r8 d0 d1 d2 d3 d4 d5 d6 d7) ++ (bd_ws bd0 h0 ro lo n cR (rrf rb) (rrf lb) ++ (pr_ws pr0 h0 cm cJ ccf ++ (ha_ws h0 aw ax ay cJ cI w csc cst cL ++ (tt_ws t0 ka aa ba sa (.ref g0) cJ T ++ (au_ws au0 bd0 pr0 tu0 (min sd u9.1) ++ (tt_ws tu0 uka uaa uba usa gu cJ T0 ++ (gp_ws g0 mF mE P f1 k1 Q f2 k2 G ++ (mo_ws m0 e0 (nI (t_tn T)) (nI n) (nI (t_bc T)) (lN P) (lN Q) (lN G) (lN (ckey (t_tn T) (t_kc T) (t_kp T))) (lN (t_pa T)) (lN (t_pb T)) (t_sht T) a0 a1 a2 a3 a4 a5 a6 a7 a8 a9 mb0 mb1 oc mb2 mb3 mb4 mb5 ++ (iw_ws a7 cI 256 bf ++ (iw_ws a8 cI 64 sc ++ (iw_ws a9 cI 8 st ++ (iw_ws mb0 cI 8 kS ++ (iw_ws mb1 cI 64 kR ++ (jw_ws a2 cJ 4 tf ++ (jw_ws a0 cJ 1232 nf ++ (jw_ws a1 cJ 616 cf ++ (iw_ws a4 cI 4 kf ++ (jw_ws mb2 cJ 4 ky ++ (jw_ws a3 cJ 16 lf ++ (iw_ws a5 cI 4 sf ++ (iw_ws a6 cI 64 vf ++ (jw_ws mb3 cJ 128 md ++ (jw_ws mb4 cJ 4 sh ++ iw_ws mb5 cI 64 ct))))))))))))))))))))))))))) [37, 38, 0, 39, 40, 41, 1, 2, 3, 4, 5, 6, 7, 8, 9, 10, 11, 42, 12, 13, 14, 15, 16, 17, 18, 19, 20, 21, 22, 23, 24, 25, 26, 27, 28, 29, 30, 31, 32, 33, 34, 35, 36] (by decide) rfl
    generalize H1 = H at hP hS ⊢
    clear hPc hDc hFc hP1 hD1 hK1 ht hk1 hz1
    have hr9 : r_1 = 0 := hw.1
    subst hr9
    have hw := hw.2
    obtain ⟨hxk, hk, hxJ, hJ2, hJ⟩ := hw
    refine lv_istore (lv' := [(5, .int 0), (4, .int (nI i)), (3, .ref out), (2, .ref m0), (1, .ref b0), (0, .ref b)]) hx hb d_law_1794 hl (by decide) rfl (fun ls hl => ?_)
    refine lv_aload_n hx hb d_law_1796 rfl (lv_at hl 3 rfl) ?_
    refine lv_aload_n hx hb d_law_1797 rfl (lv_at hl 5 rfl) ?_
    refine lv_iload hx hb d_law_1798 (lv_at hl 1 rfl) ?_
    refine lv_iconst (v := 1) hx hb d_law_1800 (by decide) ?_
    refine lv_iadd hx hb d_law_1801 ?_
    rw [show ((nI i) + 1 : Int32) = nI (i + 1) from nI_add _ 1]
    refine va_sld hx hb hX hbl hbA hS (vp_in_nI (by omega) (by omega)) d_law_1802 ?_
    rw [show (xs (nI (i + 1)).toNatClampNeg : Int32) = xs (i + 1) from by rw [nI_clamp (by omega)]]
    rw [show (xs (i + 1) : Int32) = nI u9.1 from (hx1.symm.trans hxk)]
    refine lv_aload_n hx hb d_law_1803 rfl (lv_at hl 5 rfl) ?_
    refine lv_iload hx hb d_law_1804 (lv_at hl 1 rfl) ?_
    refine lv_iconst (v := 2) hx hb d_law_1806 (by decide) ?_
    refine lv_iadd hx hb d_law_1807 ?_
    rw [show ((nI i) + 2 : Int32) = nI (i + 2) from nI_add _ 2]
    refine va_sld hx hb hX hbl hbA hS (vp_in_nI (by omega) (by omega)) d_law_1808 ?_
    rw [show (xs (nI (i + 2)).toNatClampNeg : Int32) = xs (i + 2) from by rw [nI_clamp (by omega)]]
    rw [show (xs (i + 2) : Int32) = nI u9.2 from (hx2.symm.trans hxJ)]
    refine lv_aload_n hx hb d_law_1809 rfl (lv_at hl 5 rfl) ?_
    refine lv_iload hx hb d_law_1810 (lv_at hl 1 rfl) ?_
    refine lv_iconst (v := 3) hx hb d_law_1812 (by decide) ?_
    refine lv_iadd hx hb d_law_1813 ?_
    rw [show ((nI i) + 3 : Int32) = nI (i + 3) from nI_add _ 3]
    refine va_sld hx hb hX hbl hbA hS (vp_in_nI (by omega) (by omega)) d_law_1814 ?_
    rw [show (xs (nI (i + 3)).toNatClampNeg : Int32) = xs (i + 3) from by rw [nI_clamp (by omega)]]
    refine lv_i2l (v := (xs (i + 3) : Int32).toInt64) hx hb d_law_1815 rfl ?_
    refine lv_bipush (v := 32) hx hb d_law_1816 (by decide) ?_
    refine lv_lshl (v := ((xs (i + 3) : Int32).toInt64 : Int64) <<< ((32 : Int32).toInt64 &&& 63)) hx hb d_law_1818 rfl ?_
    refine lv_aload_n hx hb d_law_1819 rfl (lv_at hl 5 rfl) ?_
    refine lv_iload hx hb d_law_1820 (lv_at hl 1 rfl) ?_
    refine lv_iconst (v := 4) hx hb d_law_1822 (by decide) ?_
    refine lv_iadd hx hb d_law_1823 ?_
    rw [show ((nI i) + 4 : Int32) = nI (i + 4) from nI_add _ 4]
    refine va_sld hx hb hX hbl hbA hS (vp_in_nI (by omega) (by omega)) d_law_1824 ?_
    rw [show (xs (nI (i + 4)).toNatClampNeg : Int32) = xs (i + 4) from by rw [nI_clamp (by omega)]]
    refine lv_i2l (v := (xs (i + 4) : Int32).toInt64) hx hb d_law_1825 rfl ?_
    refine lv_ldc2 (v := 4294967295) hx hb hown (hts _ (List.mem_cons_of_mem _ gk_1202)) d_law_1826 ?_
    refine lv_land hx hb d_law_1829 ?_
    refine lv_lor hx hb d_law_1830 ?_
    rw [show ((((xs (i + 3) : Int32).toInt64 : Int64) <<< ((32 : Int32).toInt64 &&& 63)) ||| (((xs (i + 4) : Int32).toInt64) &&& 4294967295) : Int64) = x3 from hx3.symm]
    have hPc := hP.sub (ws' := (mo_ws m0 e0 (nI (t_tn T)) (nI n) (nI (t_bc T)) (lN P) (lN Q) (lN G) (lN (ckey (t_tn T) (t_kc T) (t_kp T))) (lN (t_pa T)) (lN (t_pb T)) (t_sht T) a0 a1 a2 a3 a4 a5 a6 a7 a8 a9 mb0 mb1 oc mb2 mb3 mb4 mb5 ++ jw_ws a0 cJ 1232 nf)) [26, 33] rfl
    have hDc := hD.sub (ws' := (mo_ws m0 e0 (nI (t_tn T)) (nI n) (nI (t_bc T)) (lN P) (lN Q) (lN G) (lN (ckey (t_tn T) (t_kc T) (t_kp T))) (lN (t_pa T)) (lN (t_pb T)) (t_sht T) a0 a1 a2 a3 a4 a5 a6 a7 a8 a9 mb0 mb1 oc mb2 mb3 mb4 mb5 ++ jw_ws a0 cJ 1232 nf)) [26, 33] (by decide) rfl
    have hKc := hK.sub (tys' := [(cJ, .long), (cI, .int)]) [0, 1] rfl
    have hFc := va_free (wc := (mo_ws m0 e0 (nI (t_tn T)) (nI n) (nI (t_bc T)) (lN P) (lN Q) (lN G) (lN (ckey (t_tn T) (t_kc T) (t_kp T))) (lN (t_pa T)) (lN (t_pb T)) (t_sht T) a0 a1 a2 a3 a4 a5 a6 a7 a8 a9 mb0 mb1 oc mb2 mb3 mb4 mb5 ++ jw_ws a0 cJ 1232 nf)) hD hS hA [26, 33] rfl
    refine va_calll (va_runV (As := [.int (nI u9.1), .int (nI u9.2), .long x3]) (rest := []) ⟨hx, hb, hml, hown, hts⟩ (c_Bm_spoil_0 l dC dI cJ cI H.size m0 e0 (t_tn T) n (t_bc T) P Q G (ckey (t_tn T) (t_kc T) (t_kp T)) (t_pa T) (t_pb T) (t_sht T) a0 a1 a2 a3 a4 a5 a6 a7 a8 a9 mb0 mb1 oc mb2 mb3 mb4 mb5 nf kd u9.1 u9.2 x3 hn hnfk hk hJ2 hJ) (cwV 3 hts (gw_V gk_1186 gk_1187 gk_1188 gk_7 gk_1189) rfl rfl rfl (by decide +kernel) ⟨(Nat.le_of_ble_eq_true rfl), (Nat.le_of_ble_eq_true rfl)⟩) ⟨fun a U g mk q => by obtain ⟨q0, q1, qP, qK, qD⟩ := q; exact ⟨q0, q1, qP, va_K.moved (u := U) (U := U.calling g mk a) (Vm.Alike.refl U.vm) qK, qD⟩, va_recv hK hP (ci := 8) (q0 := 26) rfl rfl, fun U hU hW => ⟨rfl, by rw [hU], by rw [hU]; exact hPc, va_K.moved hW.alike hKc, hDc.weaken (fun _ _ _ _ => trivial)⟩⟩ rfl rfl hl.1 rfl (lv_room (Nat.le_of_ble_eq_true rfl)) d_law_1831 ⟨show cells + 8 + 0 ≤ 601024 by omega, show slots + 48 + 0 ≤ 7293034 by omega⟩) hS (fun q _ h => hFc q h) hFc (fun r_2 v9 t9 H1 locs ht hvm hw hB hz1 hk1 hS => ?_)
    obtain ⟨hP1, hK1, hD1⟩ := hB
    rw [ht] at hP1
    obtain ⟨hP, hD⟩ := va_joinQ (X := (jw_ws out cJ 1 (vp_updL of 0 (R u9.1 u9.2)) ++ (bb_ws b0 bd0 pr0 t0 au0 da (.ref g0) ++ (rw_ws da cJ (r8 d0 d1 d2 d3 d4 d5 d6 d7) ++ (bd_ws bd0 h0 ro lo n cR (rrf rb) (rrf lb) ++ (pr_ws pr0 h0 cm cJ ccf ++ (ha_ws h0 aw ax ay cJ cI w csc cst cL ++ (tt_ws t0 ka aa ba sa (.ref g0) cJ T ++ (au_ws au0 bd0 pr0 tu0 (min sd u9.1) ++ (tt_ws tu0 uka uaa uba usa gu cJ T0 ++ (gp_ws g0 mF mE P f1 k1 Q f2 k2 G ++ (mo_ws m0 e0 (nI (t_tn T)) (nI n) (nI (t_bc T)) (lN P) (lN Q) (lN G) (lN (ckey (t_tn T) (t_kc T) (t_kp T))) (lN (t_pa T)) (lN (t_pb T)) (t_sht T) a0 a1 a2 a3 a4 a5 a6 a7 a8 a9 mb0 mb1 oc mb2 mb3 mb4 mb5 ++ (iw_ws a7 cI 256 bf ++ (iw_ws a8 cI 64 sc ++ (iw_ws a9 cI 8 st ++ (iw_ws mb0 cI 8 kS ++ (iw_ws mb1 cI 64 kR ++ (jw_ws a2 cJ 4 tf ++ (jw_ws a0 cJ 1232 nf ++ (jw_ws a1 cJ 616 cf ++ (iw_ws a4 cI 4 kf ++ (jw_ws mb2 cJ 4 ky ++ (jw_ws a3 cJ 16 lf ++ (iw_ws a5 cI 4 sf ++ (iw_ws a6 cI 64 vf ++ (jw_ws mb3 cJ 128 md ++ (jw_ws mb4 cJ 4 sh ++ iw_ws mb5 cI 64 ct))))))))))))))))))))))))))) (cx := (mo_ws m0 e0 (nI (t_tn T)) (nI n) (nI (t_bc T)) (lN P) (lN Q) (lN G) (lN (ckey (t_tn T) (t_kc T) (t_kp T))) (lN (t_pa T)) (lN (t_pb T)) (t_sht T) a0 a1 a2 a3 a4 a5 a6 a7 a8 a9 mb0 mb1 oc mb2 mb3 mb4 mb5 ++ jw_ws a0 cJ 1232 nf)) (wr := (jw_ws out cJ 1 (vp_updL of 0 (R u9.1 u9.2)) ++ (bb_ws b0 bd0 pr0 t0 au0 da (.ref g0) ++ (rw_ws da cJ (r8 d0 d1 d2 d3 d4 d5 d6 d7) ++ (bd_ws bd0 h0 ro lo n cR (rrf rb) (rrf lb) ++ (pr_ws pr0 h0 cm cJ ccf ++ (ha_ws h0 aw ax ay cJ cI w csc cst cL ++ (tt_ws t0 ka aa ba sa (.ref g0) cJ T ++ (au_ws au0 bd0 pr0 tu0 (min sd u9.1) ++ (tt_ws tu0 uka uaa uba usa gu cJ T0 ++ (gp_ws g0 mF mE P f1 k1 Q f2 k2 G ++ (iw_ws a7 cI 256 bf ++ (iw_ws a8 cI 64 sc ++ (iw_ws a9 cI 8 st ++ (iw_ws mb0 cI 8 kS ++ (iw_ws mb1 cI 64 kR ++ (jw_ws a2 cJ 4 tf ++ (jw_ws a1 cJ 616 cf ++ (iw_ws a4 cI 4 kf ++ (jw_ws mb2 cJ 4 ky ++ (jw_ws a3 cJ 16 lf ++ (iw_ws a5 cI 4 sf ++ (iw_ws a6 cI 64 vf ++ (jw_ws mb3 cJ 128 md ++ (jw_ws mb4 cJ 4 sh ++ iw_ws mb5 cI 64 ct))))))))))))))))))))))))) (w1 := (mo_ws m0 0 (nI (t_tn T)) (nI n) (nI (t_bc T)) (lN P) (lN Q) (lN G) (lN (ckey (t_tn T) (t_kc T) (t_kp T))) (lN (t_pa T)) (lN (t_pb T)) (t_sht T) a0 a1 a2 a3 a4 a5 a6 a7 a8 a9 mb0 mb1 oc mb2 mb3 mb4 mb5 ++ jw_ws a0 cJ 1232 (vp_updL nf (8 * u9.1 + u9.2) x3))) (pl := bpool rb lb cJ (updF R u9.1 (vp_updL (R u9.1) u9.2 x3)) Lk) hP hD [26, 33] [0, 1, 2, 3, 4, 5, 6, 7, 8, 9, 10, 11, 12, 13, 14, 15, 16, 17, 18, 19, 20, 21, 22, 23, 24, 25, 27, 28, 29, 30, 31, 32, 34, 35, 36, 37, 38, 39, 40, 41, 42] rfl rfl (by decide) (by decide) hk1 hFc hP1 hD1
    have hP := hP.part (cx := (jw_ws out cJ 1 (vp_updL of 0 (R u9.1 u9.2)) ++ (bb_ws b0 bd0 pr0 t0 au0 da (.ref g0) ++ (rw_ws da cJ (r8 d0 d1 d2 d3 d4 d5 d6 d7) ++ (bd_ws bd0 h0 ro lo n cR (rrf rb) (rrf lb) ++ (pr_ws pr0 h0 cm cJ ccf ++ (ha_ws h0 aw ax ay cJ cI w csc cst cL ++ (tt_ws t0 ka aa ba sa (.ref g0) cJ T ++ (au_ws au0 bd0 pr0 tu0 (min sd u9.1) ++ (tt_ws tu0 uka uaa uba usa gu cJ T0 ++ (gp_ws g0 mF mE P f1 k1 Q f2 k2 G ++ (mo_ws m0 0 (nI (t_tn T)) (nI n) (nI (t_bc T)) (lN P) (lN Q) (lN G) (lN (ckey (t_tn T) (t_kc T) (t_kp T))) (lN (t_pa T)) (lN (t_pb T)) (t_sht T) a0 a1 a2 a3 a4 a5 a6 a7 a8 a9 mb0 mb1 oc mb2 mb3 mb4 mb5 ++ (iw_ws a7 cI 256 bf ++ (iw_ws a8 cI 64 sc ++ (iw_ws a9 cI 8 st ++ (iw_ws mb0 cI 8 kS ++ (iw_ws mb1 cI 64 kR ++ (jw_ws a2 cJ 4 tf ++ (jw_ws a0 cJ 1232 (vp_updL nf (8 * u9.1 + u9.2) x3) ++ (jw_ws a1 cJ 616 cf ++ (iw_ws a4 cI 4 kf ++ (jw_ws mb2 cJ 4 ky ++ (jw_ws a3 cJ 16 lf ++ (iw_ws a5 cI 4 sf ++ (iw_ws a6 cI 64 vf ++ (jw_ws mb3 cJ 128 md ++ (jw_ws mb4 cJ 4 sh ++ iw_ws mb5 cI 64 ct))))))))))))))))))))))))))) [0, 1, 2, 3, 4, 5, 6, 7, 8, 9, 10, 11, 12, 13, 14, 15, 16, 17, 18, 19, 20, 21, 22, 23, 24, 25, 41, 26, 27, 28, 29, 30, 31, 42, 32, 33, 34, 35, 36, 37, 38, 39, 40] rfl
    have hD := hD.part (cx := (jw_ws out cJ 1 (vp_updL of 0 (R u9.1 u9.2)) ++ (bb_ws b0 bd0 pr0 t0 au0 da (.ref g0) ++ (rw_ws da cJ (r8 d0 d1 d2 d3 d4 d5 d6 d7) ++ (bd_ws bd0 h0 ro lo n cR (rrf rb) (rrf lb) ++ (pr_ws pr0 h0 cm cJ ccf ++ (ha_ws h0 aw ax ay cJ cI w csc cst cL ++ (tt_ws t0 ka aa ba sa (.ref g0) cJ T ++ (au_ws au0 bd0 pr0 tu0 (min sd u9.1) ++ (tt_ws tu0 uka uaa uba usa gu cJ T0 ++ (gp_ws g0 mF mE P f1 k1 Q f2 k2 G ++ (mo_ws m0 0 (nI (t_tn T)) (nI n) (nI (t_bc T)) (lN P) (lN Q) (lN G) (lN (ckey (t_tn T) (t_kc T) (t_kp T))) (lN (t_pa T)) (lN (t_pb T)) (t_sht T) a0 a1 a2 a3 a4 a5 a6 a7 a8 a9 mb0 mb1 oc mb2 mb3 mb4 mb5 ++ (iw_ws a7 cI 256 bf ++ (iw_ws a8 cI 64 sc ++ (iw_ws a9 cI 8 st ++ (iw_ws mb0 cI 8 kS ++ (iw_ws mb1 cI 64 kR ++ (jw_ws a2 cJ 4 tf ++ (jw_ws a0 cJ 1232 (vp_updL nf (8 * u9.1 + u9.2) x3) ++ (jw_ws a1 cJ 616 cf ++ (iw_ws a4 cI 4 kf ++ (jw_ws mb2 cJ 4 ky ++ (jw_ws a3 cJ 16 lf ++ (iw_ws a5 cI 4 sf ++ (iw_ws a6 cI 64 vf ++ (jw_ws mb3 cJ 128 md ++ (jw_ws mb4 cJ 4 sh ++ iw_ws mb5 cI 64 ct))))))))))))))))))))))))))) [0, 1, 2, 3, 4, 5, 6, 7, 8, 9, 10, 11, 12, 13, 14, 15, 16, 17, 18, 19, 20, 21, 22, 23, 24, 25, 41, 26, 27, 28, 29, 30, 31, 42, 32, 33, 34, 35, 36, 37, 38, 39, 40] (by decide) rfl
    generalize H1 = H at hP hS ⊢
    clear hPc hDc hFc hP1 hD1 hK1 ht hk1 hz1
    have hr8 := hw
    subst hr8
    refine lv_lstore (lv' := [(6, .long (nf (8 * u9.1 + u9.2))), (5, .int 0), (4, .int (nI i)), (3, .ref out), (2, .ref m0), (1, .ref b0), (0, .ref b)]) hx hb d_law_1834 hl (by decide) rfl (fun ls hl => ?_)
    refine lv_aload_n hx hb d_law_1836 rfl (lv_at hl 4 rfl) ?_
    have hPc := hP.sub (ws' := (mo_ws m0 0 (nI (t_tn T)) (nI n) (nI (t_bc T)) (lN P) (lN Q) (lN G) (lN (ckey (t_tn T) (t_kc T) (t_kp T))) (lN (t_pa T)) (lN (t_pb T)) (t_sht T) a0 a1 a2 a3 a4 a5 a6 a7 a8 a9 mb0 mb1 oc mb2 mb3 mb4 mb5)) [26] rfl
    have hKc := hK.sub (tys' := [(cJ, .long), (cI, .int)]) [0, 1] rfl
    refine va_calli (va_runV (As := []) (rest := []) ⟨hx, hb, hml, hown, hts⟩ (c_Bm_thrown l H dC dI cJ cI m0 0 (nI (t_tn T)) (nI n) (nI (t_bc T)) (lN P) (lN Q) (lN G) (lN (ckey (t_tn T) (t_kc T) (t_kp T))) (lN (t_pa T)) (lN (t_pb T)) (t_sht T) a0 a1 a2 a3 a4 a5 a6 a7 a8 a9 mb0 mb1 oc mb2 mb3 mb4 mb5 hPc) (cwV 0 hts (gw_V gk_1004 gk_1005 gk_1006 gk_7 gk_1007) rfl rfl rfl (by decide +kernel) ⟨(Nat.le_of_ble_eq_true rfl), (Nat.le_of_ble_eq_true rfl)⟩) ⟨fun a U g mk q => ⟨q.1, q.2.1, va_K.moved (u := U) (U := U.calling g mk a) (Vm.Alike.refl U.vm) q.2.2⟩, va_recv hK hP (ci := 8) (q0 := 26) rfl rfl, fun U hU hW => ⟨rfl, hU, va_K.moved hW.alike hKc⟩⟩ rfl rfl hl.1 rfl (lv_room (Nat.le_of_ble_eq_true rfl)) d_law_1837 ⟨show cells + 8 + 0 + 0 ≤ 601024 by omega, show slots + 48 + 0 + 0 ≤ 7293034 by omega⟩) hS (fun q _ h => h.elim) (fun q h => h.elim) (fun r_3 w9 t9 H1 locs ht hvm hw9 hB hz1 hk1 hS => ?_)
    obtain rfl : H = H1 := hB.symm.trans ht
    have hw9 : r_3 = 0 := hw9
    subst hw9
    clear hPc hz1 hk1 hB
    refine lv_iload hx hb d_law_1840 (lv_at hl 1 rfl) ?_
    refine lv_icmp_eq (tgt := 1847) hx hb d_law_1842 (by decide) (fun c_4 => ?_) (fun c_4 => ?_)
    · -- taken
      refine lv_iload hx hb d_law_1847 (lv_at hl 1 rfl) ?_
      refine lv_if_ne (tgt := 1863) hx hb d_law_1849 (by decide) (fun c_5 => ?_) (fun c_5 => ?_)
      · -- taken
        exact absurd rfl c_5
      · -- not taken
        refine lv_aload_n hx hb d_law_1852 rfl (lv_at hl 3 rfl) ?_
        refine lv_iconst (v := 0) hx hb d_law_1853 (by decide) ?_
        refine va_lald hx hb hK hP 0 0 rfl rfl (vp_lit rfl) d_law_1854 ?_
        refine lv_topl (fun v_6 ev_6 => ?_)
        obtain rfl : v_6 = R u9.1 u9.2 := ev_6.trans rfl
        refine lv_lload hx hb d_law_1855 (lv_at hl 0 rfl) ?_
        refine W.lcmp hx hb d_law_1857 ?_
        refine lv_if_eq (tgt := 1863) hx hb d_law_1858 (by decide) (fun c_7 => ?_) (fun c_7 => ?_)
        · -- taken
          refine lv_goto (tgt := 1965) hx hb d_law_1863 (by decide) ?_
          refine W.widen (k := cells + 20) (n := slots + 200) (by omega) (by omega) ?_
          have hI9 : LI dC dI cJ cI cR A out b0 m0 H := LG.mk hP hD (rel_spoil hR hk hJ2 hJ x3)
          exact cont _ _ _ hS hI9 (lv_sub hl [2, 3, 4, 5, 6] rfl)
        · -- not taken
          exact absurd (lgc (hnfR _ hk _ hJ).symm) c_7
    · -- not taken
      exact absurd c_4 (by decide)
  refine lv_aload_n hx hb d_law_1755 rfl (lv_at hl 3 rfl) ?_
  refine lv_aload_n hx hb d_law_1756 rfl (lv_at hl 4 rfl) ?_
  refine lv_iload hx hb d_law_1757 (lv_at hl 0 rfl) ?_
  refine lv_iconst (v := 1) hx hb d_law_1759 (by decide) ?_
  refine lv_iadd hx hb d_law_1760 ?_
  rw [show ((nI i) + 1 : Int32) = nI (i + 1) from nI_add _ 1]
  refine va_sld hx hb hX hbl hbA hS (vp_in_nI (by omega) (by omega)) d_law_1761 ?_
  rw [show (xs (nI (i + 1)).toNatClampNeg : Int32) = xs (i + 1) from by rw [nI_clamp (by omega)]]
  rw [show (xs (i + 1) : Int32) = x1 from hx1.symm]
  refine lv_aload_n hx hb d_law_1762 rfl (lv_at hl 4 rfl) ?_
  refine lv_iload hx hb d_law_1763 (lv_at hl 0 rfl) ?_
  refine lv_iconst (v := 2) hx hb d_law_1765 (by decide) ?_
  refine lv_iadd hx hb d_law_1766 ?_
  rw [show ((nI i) + 2 : Int32) = nI (i + 2) from nI_add _ 2]
  refine va_sld hx hb hX hbl hbA hS (vp_in_nI (by omega) (by omega)) d_law_1767 ?_
  rw [show (xs (nI (i + 2)).toNatClampNeg : Int32) = xs (i + 2) from by rw [nI_clamp (by omega)]]
  rw [show (xs (i + 2) : Int32) = x2 from hx2.symm]
  refine lv_aload_n hx hb d_law_1768 rfl (lv_at hl 4 rfl) ?_
  refine lv_iload hx hb d_law_1769 (lv_at hl 0 rfl) ?_
  refine lv_iconst (v := 3) hx hb d_law_1771 (by decide) ?_
  refine lv_iadd hx hb d_law_1772 ?_
  rw [show ((nI i) + 3 : Int32) = nI (i + 3) from nI_add _ 3]
  refine va_sld hx hb hX hbl hbA hS (vp_in_nI (by omega) (by omega)) d_law_1773 ?_
  rw [show (xs (nI (i + 3)).toNatClampNeg : Int32) = xs (i + 3) from by rw [nI_clamp (by omega)]]
  refine lv_i2l (v := (xs (i + 3) : Int32).toInt64) hx hb d_law_1774 rfl ?_
  refine lv_bipush (v := 32) hx hb d_law_1775 (by decide) ?_
  refine lv_lshl (v := ((xs (i + 3) : Int32).toInt64 : Int64) <<< ((32 : Int32).toInt64 &&& 63)) hx hb d_law_1777 rfl ?_
  refine lv_aload_n hx hb d_law_1778 rfl (lv_at hl 4 rfl) ?_
  refine lv_iload hx hb d_law_1779 (lv_at hl 0 rfl) ?_
  refine lv_iconst (v := 4) hx hb d_law_1781 (by decide) ?_
  refine lv_iadd hx hb d_law_1782 ?_
  rw [show ((nI i) + 4 : Int32) = nI (i + 4) from nI_add _ 4]
  refine va_sld hx hb hX hbl hbA hS (vp_in_nI (by omega) (by omega)) d_law_1783 ?_
  rw [show (xs (nI (i + 4)).toNatClampNeg : Int32) = xs (i + 4) from by rw [nI_clamp (by omega)]]
  refine lv_i2l (v := (xs (i + 4) : Int32).toInt64) hx hb d_law_1784 rfl ?_
  refine lv_ldc2 (v := 4294967295) hx hb hown (hts _ (List.mem_cons_of_mem _ gk_1202)) d_law_1785 ?_
  refine lv_land hx hb d_law_1788 ?_
  refine lv_lor hx hb d_law_1789 ?_
  rw [show ((((xs (i + 3) : Int32).toInt64 : Int64) <<< ((32 : Int32).toInt64 &&& 63)) ||| (((xs (i + 4) : Int32).toInt64) &&& 4294967295) : Int64) = x3 from hx3.symm]
  refine lv_aload_n hx hb d_law_1790 rfl (lv_at hl 1 rfl) ?_
  have hPc := hP.part (cx := (jw_ws out cJ 1 of ++ (bb_ws b0 bd0 pr0 t0 au0 da (.ref g0) ++ (bd_ws bd0 h0 ro lo n cR (rrf rb) (rrf lb) ++ au_ws au0 bd0 pr0 tu0 sd)))) [0, 1, 3, 4, 5, 17] rfl
  have hDc := hD.part (cx := (jw_ws out cJ 1 of ++ (bb_ws b0 bd0 pr0 t0 au0 da (.ref g0) ++ (bd_ws bd0 h0 ro lo n cR (rrf rb) (rrf lb) ++ au_ws au0 bd0 pr0 tu0 sd)))) [0, 1, 3, 4, 5, 17] (by decide) rfl
  have hKc := hK.sub (tys' := [(cJ, .long), (cI, .int), (cR, .array .long)]) [0, 1, 2] rfl
  have hFc := va_freeP (cx := (jw_ws out cJ 1 of ++ (bb_ws b0 bd0 pr0 t0 au0 da (.ref g0) ++ (bd_ws bd0 h0 ro lo n cR (rrf rb) (rrf lb) ++ au_ws au0 bd0 pr0 tu0 sd)))) hD hS hA [0, 1, 3, 4, 5, 17] rfl
  have hZc0 : xz (va_A ((jw_ws out cJ 1 of ++ (bb_ws b0 bd0 pr0 t0 au0 da (.ref g0) ++ (bd_ws bd0 h0 ro lo n cR (rrf rb) (rrf lb) ++ au_ws au0 bd0 pr0 tu0 sd))) ++ bpool rb lb cJ R Lk) H.size) s H := (hZx.kept hS.2.1).narrow hFc
  have hZc1 : nc_Z s := hZn
  refine vx_calli (vx_runSX (hh := h_Lw_spoil) (As := [.ref b0, .int x1, .int x2, .long x3, .ref out]) (rest := []) ⟨hx, hb, hml, hown, hts⟩ (c_Lw_spoil_1 l hnt dC dI cJ cI cR H.size b0 bd0 pr0 t0 au0 da (.ref g0) tu0 sd h0 ro lo n rb lb (t_tn T) kd wh R Lk x1 x2 x3 out of hwf hsd hC) (vx_cwSW 5 hts (gw_Sv gk_779 gk_780 gk_0 gk_781) rfl rfl rfl (by decide +kernel) ⟨(Nat.le_of_ble_eq_true rfl), (Nat.le_of_ble_eq_true rfl)⟩) ⟨fun a U g mk q => by obtain ⟨q0, q1, qP, qK, qD, qZ0, qZ1⟩ := q; exact ⟨q0, q1, qP, va_K.moved (u := U) (U := U.calling g mk a) (Vm.Alike.refl U.vm) qK, qD, xz.same (u := U) (U := U.calling g mk a) rfl qZ0, nc_Z.moved (u := U) (U := U.calling g mk a) (Vm.Alike.refl U.vm) qZ1⟩, fun U hU hW => ⟨rfl, by rw [hU], by rw [hU]; exact hPc, va_K.moved hW.alike hKc, hDc.weaken (fun _ _ _ _ => trivial), by rw [hU]; exact xz.warm hW hZc0, nc_Z.moved hW.alike hZc1⟩⟩ rfl rfl hl.1 rfl (lv_room (Nat.le_of_ble_eq_true rfl)) d_law_1791 ⟨show cells + 8 ≤ 601024 by omega, show slots + 48 ≤ 7293034 by omega⟩) hS (fun q _ h => hFc q h) hFc (fun q _ h => hFc q h) (fun E9 ce9 q9 u8 t9 H1 locs ht hvm hpx hbx hz1 hk1 hS hce hcv hcl => hpx.elim) (fun r_8 u9 t9 H1 locs ht hvm hw hB hz1 hk1 hS => ?_)
  obtain ⟨hP1, hK1, hD1⟩ := hB
  rw [ht] at hP1
  obtain ⟨hP, hD⟩ := va_joinP (X := (jw_ws out cJ 1 of ++ (bb_ws b0 bd0 pr0 t0 au0 da (.ref g0) ++ (rw_ws da cJ (r8 d0 d1 d2 d3 d4 d5 d6 d7) ++ (bd_ws bd0 h0 ro lo n cR (rrf rb) (rrf lb) ++ (pr_ws pr0 h0 cm cJ ccf ++ (ha_ws h0 aw ax ay cJ cI w csc cst cL ++ (tt_ws t0 ka aa ba sa (.ref g0) cJ T ++ (au_ws au0 bd0 pr0 tu0 sd ++ (tt_ws tu0 uka uaa uba usa gu cJ T0 ++ (gp_ws g0 mF mE P f1 k1 Q f2 k2 G ++ (mo_ws m0 e0 (nI (t_tn T)) (nI n) (nI (t_bc T)) (lN P) (lN Q) (lN G) (lN (ckey (t_tn T) (t_kc T) (t_kp T))) (lN (t_pa T)) (lN (t_pb T)) (t_sht T) a0 a1 a2 a3 a4 a5 a6 a7 a8 a9 mb0 mb1 oc mb2 mb3 mb4 mb5 ++ (iw_ws a7 cI 256 bf ++ (iw_ws a8 cI 64 sc ++ (iw_ws a9 cI 8 st ++ (iw_ws mb0 cI 8 kS ++ (iw_ws mb1 cI 64 kR ++ (jw_ws a2 cJ 4 tf ++ (jw_ws a0 cJ 1232 nf ++ (jw_ws a1 cJ 616 cf ++ (iw_ws a4 cI 4 kf ++ (jw_ws mb2 cJ 4 ky ++ (jw_ws a3 cJ 16 lf ++ (iw_ws a5 cI 4 sf ++ (iw_ws a6 cI 64 vf ++ (jw_ws mb3 cJ 128 md ++ (jw_ws mb4 cJ 4 sh ++ iw_ws mb5 cI 64 ct))))))))))))))))))))))))))) (cx := (jw_ws out cJ 1 of ++ (bb_ws b0 bd0 pr0 t0 au0 da (.ref g0) ++ (bd_ws bd0 h0 ro lo n cR (rrf rb) (rrf lb) ++ au_ws au0 bd0 pr0 tu0 sd)))) (wr := (rw_ws da cJ (r8 d0 d1 d2 d3 d4 d5 d6 d7) ++ (pr_ws pr0 h0 cm cJ ccf ++ (ha_ws h0 aw ax ay cJ cI w csc cst cL ++ (tt_ws t0 ka aa ba sa (.ref g0) cJ T ++ (tt_ws tu0 uka uaa uba usa gu cJ T0 ++ (gp_ws g0 mF mE P f1 k1 Q f2 k2 G ++ (mo_ws m0 e0 (nI (t_tn T)) (nI n) (nI (t_bc T)) (lN P) (lN Q) (lN G) (lN (ckey (t_tn T) (t_kc T) (t_kp T))) (lN (t_pa T)) (lN (t_pb T)) (t_sht T) a0 a1 a2 a3 a4 a5 a6 a7 a8 a9 mb0 mb1 oc mb2 mb3 mb4 mb5 ++ (iw_ws a7 cI 256 bf ++ (iw_ws a8 cI 64 sc ++ (iw_ws a9 cI 8 st ++ (iw_ws mb0 cI 8 kS ++ (iw_ws mb1 cI 64 kR ++ (jw_ws a2 cJ 4 tf ++ (jw_ws a0 cJ 1232 nf ++ (jw_ws a1 cJ 616 cf ++ (iw_ws a4 cI 4 kf ++ (jw_ws mb2 cJ 4 ky ++ (jw_ws a3 cJ 16 lf ++ (iw_ws a5 cI 4 sf ++ (iw_ws a6 cI 64 vf ++ (jw_ws mb3 cJ 128 md ++ (jw_ws mb4 cJ 4 sh ++ iw_ws mb5 cI 64 ct))))))))))))))))))))))) (rx := (jw_ws out cJ 1 of ++ (bb_ws b0 bd0 pr0 t0 au0 da (.ref g0) ++ (bd_ws bd0 h0 ro lo n cR (rrf rb) (rrf lb) ++ au_ws au0 bd0 pr0 tu0 sd)))) (pl := bpool rb lb cJ R Lk) (pl1 := bpool rb lb cJ R Lk) hP hD [0, 1, 3, 4, 5, 17] [2, 6, 7, 8, 9, 10, 11, 12, 13, 14, 15, 16, 18, 19, 20, 21, 22, 23, 24, 25, 26, 27, 28, 29, 30, 31, 32, 33, 34, 35, 36, 37, 38, 39, 40, 41, 42] rfl rfl (by decide) (by decide) hk1 hFc hP1 hD1
  have hP := hP.part (cx := (jw_ws out cJ 1 of ++ (bb_ws b0 bd0 pr0 t0 au0 da (.ref g0) ++ (rw_ws da cJ (r8 d0 d1 d2 d3 d4 d5 d6 d7) ++ (bd_ws bd0 h0 ro lo n cR (rrf rb) (rrf lb) ++ (pr_ws pr0 h0 cm cJ ccf ++ (ha_ws h0 aw ax ay cJ cI w csc cst cL ++ (tt_ws t0 ka aa ba sa (.ref g0) cJ T ++ (au_ws au0 bd0 pr0 tu0 sd ++ (tt_ws tu0 uka uaa uba usa gu cJ T0 ++ (gp_ws g0 mF mE P f1 k1 Q f2 k2 G ++ (mo_ws m0 e0 (nI (t_tn T)) (nI n) (nI (t_bc T)) (lN P) (lN Q) (lN G) (lN (ckey (t_tn T) (t_kc T) (t_kp T))) (lN (t_pa T)) (lN (t_pb T)) (t_sht T) a0 a1 a2 a3 a4 a5 a6 a7 a8 a9 mb0 mb1 oc mb2 mb3 mb4 mb5 ++ (iw_ws a7 cI 256 bf ++ (iw_ws a8 cI 64 sc ++ (iw_ws a9 cI 8 st ++ (iw_ws mb0 cI 8 kS ++ (iw_ws mb1 cI 64 kR ++ (jw_ws a2 cJ 4 tf ++ (jw_ws a0 cJ 1232 nf ++ (jw_ws a1 cJ 616 cf ++ (iw_ws a4 cI 4 kf ++ (jw_ws mb2 cJ 4 ky ++ (jw_ws a3 cJ 16 lf ++ (iw_ws a5 cI 4 sf ++ (iw_ws a6 cI 64 vf ++ (jw_ws mb3 cJ 128 md ++ (jw_ws mb4 cJ 4 sh ++ iw_ws mb5 cI 64 ct))))))))))))))))))))))))))) [37, 38, 0, 39, 40, 41, 1, 2, 3, 4, 5, 6, 7, 8, 9, 10, 11, 42, 12, 13, 14, 15, 16, 17, 18, 19, 20, 21, 22, 23, 24, 25, 26, 27, 28, 29, 30, 31, 32, 33, 34, 35, 36] rfl
  have hD := hD.part (cx := (jw_ws out cJ 1 of ++ (bb_ws b0 bd0 pr0 t0 au0 da (.ref g0) ++ (rw_ws da cJ (r8 d0 d1 d2 d3 d4 d5 d6 d7) ++ (bd_ws bd0 h0 ro lo n cR (rrf rb) (rrf lb) ++ (pr_ws pr0 h0 cm cJ ccf ++ (ha_ws h0 aw ax ay cJ cI w csc cst cL ++ (tt_ws t0 ka aa ba sa (.ref g0) cJ T ++ (au_ws au0 bd0 pr0 tu0 sd ++ (tt_ws tu0 uka uaa uba usa gu cJ T0 ++ (gp_ws g0 mF mE P f1 k1 Q f2 k2 G ++ (mo_ws m0 e0 (nI (t_tn T)) (nI n) (nI (t_bc T)) (lN P) (lN Q) (lN G) (lN (ckey (t_tn T) (t_kc T) (t_kp T))) (lN (t_pa T)) (lN (t_pb T)) (t_sht T) a0 a1 a2 a3 a4 a5 a6 a7 a8 a9 mb0 mb1 oc mb2 mb3 mb4 mb5 ++ (iw_ws a7 cI 256 bf ++ (iw_ws a8 cI 64 sc ++ (iw_ws a9 cI 8 st ++ (iw_ws mb0 cI 8 kS ++ (iw_ws mb1 cI 64 kR ++ (jw_ws a2 cJ 4 tf ++ (jw_ws a0 cJ 1232 nf ++ (jw_ws a1 cJ 616 cf ++ (iw_ws a4 cI 4 kf ++ (jw_ws mb2 cJ 4 ky ++ (jw_ws a3 cJ 16 lf ++ (iw_ws a5 cI 4 sf ++ (iw_ws a6 cI 64 vf ++ (jw_ws mb3 cJ 128 md ++ (jw_ws mb4 cJ 4 sh ++ iw_ws mb5 cI 64 ct))))))))))))))))))))))))))) [37, 38, 0, 39, 40, 41, 1, 2, 3, 4, 5, 6, 7, 8, 9, 10, 11, 42, 12, 13, 14, 15, 16, 17, 18, 19, 20, 21, 22, 23, 24, 25, 26, 27, 28, 29, 30, 31, 32, 33, 34, 35, 36] (by decide) rfl
  generalize H1 = H at hP hS ⊢
  clear hPc hDc hFc hP1 hD1 hK1 ht hk1 hz1
  have hr9 : r_8 = 1 := hw
  subst hr9
  refine lv_istore (lv' := [(5, .int 1), (4, .int (nI i)), (3, .ref out), (2, .ref m0), (1, .ref b0), (0, .ref b)]) hx hb d_law_1794 hl (by decide) rfl (fun ls hl => ?_)
  refine lv_aload_n hx hb d_law_1796 rfl (lv_at hl 3 rfl) ?_
  refine lv_aload_n hx hb d_law_1797 rfl (lv_at hl 5 rfl) ?_
  refine lv_iload hx hb d_law_1798 (lv_at hl 1 rfl) ?_
  refine lv_iconst (v := 1) hx hb d_law_1800 (by decide) ?_
  refine lv_iadd hx hb d_law_1801 ?_
  rw [show ((nI i) + 1 : Int32) = nI (i + 1) from nI_add _ 1]
  refine va_sld hx hb hX hbl hbA hS (vp_in_nI (by omega) (by omega)) d_law_1802 ?_
  rw [show (xs (nI (i + 1)).toNatClampNeg : Int32) = xs (i + 1) from by rw [nI_clamp (by omega)]]
  rw [show (xs (i + 1) : Int32) = x1 from hx1.symm]
  refine lv_aload_n hx hb d_law_1803 rfl (lv_at hl 5 rfl) ?_
  refine lv_iload hx hb d_law_1804 (lv_at hl 1 rfl) ?_
  refine lv_iconst (v := 2) hx hb d_law_1806 (by decide) ?_
  refine lv_iadd hx hb d_law_1807 ?_
  rw [show ((nI i) + 2 : Int32) = nI (i + 2) from nI_add _ 2]
  refine va_sld hx hb hX hbl hbA hS (vp_in_nI (by omega) (by omega)) d_law_1808 ?_
  rw [show (xs (nI (i + 2)).toNatClampNeg : Int32) = xs (i + 2) from by rw [nI_clamp (by omega)]]
  rw [show (xs (i + 2) : Int32) = x2 from hx2.symm]
  refine lv_aload_n hx hb d_law_1809 rfl (lv_at hl 5 rfl) ?_
  refine lv_iload hx hb d_law_1810 (lv_at hl 1 rfl) ?_
  refine lv_iconst (v := 3) hx hb d_law_1812 (by decide) ?_
  refine lv_iadd hx hb d_law_1813 ?_
  rw [show ((nI i) + 3 : Int32) = nI (i + 3) from nI_add _ 3]
  refine va_sld hx hb hX hbl hbA hS (vp_in_nI (by omega) (by omega)) d_law_1814 ?_
  rw [show (xs (nI (i + 3)).toNatClampNeg : Int32) = xs (i + 3) from by rw [nI_clamp (by omega)]]
  refine lv_i2l (v := (xs (i + 3) : Int32).toInt64) hx hb d_law_1815 rfl ?_
  refine lv_bipush (v := 32) hx hb d_law_1816 (by decide) ?_
  refine lv_lshl (v := ((xs (i + 3) : Int32).toInt64 : Int64) <<< ((32 : Int32).toInt64 &&& 63)) hx hb d_law_1818 rfl ?_
  refine lv_aload_n hx hb d_law_1819 rfl (lv_at hl 5 rfl) ?_
  refine lv_iload hx hb d_law_1820 (lv_at hl 1 rfl) ?_
  refine lv_iconst (v := 4) hx hb d_law_1822 (by decide) ?_
  refine lv_iadd hx hb d_law_1823 ?_
  rw [show ((nI i) + 4 : Int32) = nI (i + 4) from nI_add _ 4]
  refine va_sld hx hb hX hbl hbA hS (vp_in_nI (by omega) (by omega)) d_law_1824 ?_
  rw [show (xs (nI (i + 4)).toNatClampNeg : Int32) = xs (i + 4) from by rw [nI_clamp (by omega)]]
  refine lv_i2l (v := (xs (i + 4) : Int32).toInt64) hx hb d_law_1825 rfl ?_
  refine lv_ldc2 (v := 4294967295) hx hb hown (hts _ (List.mem_cons_of_mem _ gk_1202)) d_law_1826 ?_
  refine lv_land hx hb d_law_1829 ?_
  refine lv_lor hx hb d_law_1830 ?_
  rw [show ((((xs (i + 3) : Int32).toInt64 : Int64) <<< ((32 : Int32).toInt64 &&& 63)) ||| (((xs (i + 4) : Int32).toInt64) &&& 4294967295) : Int64) = x3 from hx3.symm]
  have hPc := hP.sub (ws' := (mo_ws m0 e0 (nI (t_tn T)) (nI n) (nI (t_bc T)) (lN P) (lN Q) (lN G) (lN (ckey (t_tn T) (t_kc T) (t_kp T))) (lN (t_pa T)) (lN (t_pb T)) (t_sht T) a0 a1 a2 a3 a4 a5 a6 a7 a8 a9 mb0 mb1 oc mb2 mb3 mb4 mb5 ++ jw_ws a0 cJ 1232 nf)) [26, 33] rfl
  have hDc := hD.sub (ws' := (mo_ws m0 e0 (nI (t_tn T)) (nI n) (nI (t_bc T)) (lN P) (lN Q) (lN G) (lN (ckey (t_tn T) (t_kc T) (t_kp T))) (lN (t_pa T)) (lN (t_pb T)) (t_sht T) a0 a1 a2 a3 a4 a5 a6 a7 a8 a9 mb0 mb1 oc mb2 mb3 mb4 mb5 ++ jw_ws a0 cJ 1232 nf)) [26, 33] (by decide) rfl
  have hKc := hK.sub (tys' := [(cJ, .long), (cI, .int)]) [0, 1] rfl
  have hFc := va_free (wc := (mo_ws m0 e0 (nI (t_tn T)) (nI n) (nI (t_bc T)) (lN P) (lN Q) (lN G) (lN (ckey (t_tn T) (t_kc T) (t_kp T))) (lN (t_pa T)) (lN (t_pb T)) (t_sht T) a0 a1 a2 a3 a4 a5 a6 a7 a8 a9 mb0 mb1 oc mb2 mb3 mb4 mb5 ++ jw_ws a0 cJ 1232 nf)) hD hS hA [26, 33] rfl
  refine va_calll (va_runV (As := [.int x1, .int x2, .long x3]) (rest := []) ⟨hx, hb, hml, hown, hts⟩ (c_Bm_spoil_1 l dC dI cJ cI H.size m0 e0 (t_tn T) n (t_bc T) P Q G (ckey (t_tn T) (t_kc T) (t_kp T)) (t_pa T) (t_pb T) (t_sht T) a0 a1 a2 a3 a4 a5 a6 a7 a8 a9 mb0 mb1 oc mb2 mb3 mb4 mb5 nf kd x1 x2 x3 hn hnfk hC) (cwV 3 hts (gw_V gk_1186 gk_1187 gk_1188 gk_7 gk_1189) rfl rfl rfl (by decide +kernel) ⟨(Nat.le_of_ble_eq_true rfl), (Nat.le_of_ble_eq_true rfl)⟩) ⟨fun a U g mk q => by obtain ⟨q0, q1, qP, qK, qD⟩ := q; exact ⟨q0, q1, qP, va_K.moved (u := U) (U := U.calling g mk a) (Vm.Alike.refl U.vm) qK, qD⟩, va_recv hK hP (ci := 8) (q0 := 26) rfl rfl, fun U hU hW => ⟨rfl, by rw [hU], by rw [hU]; exact hPc, va_K.moved hW.alike hKc, hDc.weaken (fun _ _ _ _ => trivial)⟩⟩ rfl rfl hl.1 rfl (lv_room (Nat.le_of_ble_eq_true rfl)) d_law_1831 ⟨show cells + 8 + 0 ≤ 601024 by omega, show slots + 48 + 0 ≤ 7293034 by omega⟩) hS (fun q _ h => hFc q h) hFc (fun r_9 v9 t9 H1 locs ht hvm hw hB hz1 hk1 hS => ?_)
  obtain ⟨hP1, hK1, hD1⟩ := hB
  rw [ht] at hP1
  obtain ⟨hP, hD⟩ := va_joinQ (X := (jw_ws out cJ 1 of ++ (bb_ws b0 bd0 pr0 t0 au0 da (.ref g0) ++ (rw_ws da cJ (r8 d0 d1 d2 d3 d4 d5 d6 d7) ++ (bd_ws bd0 h0 ro lo n cR (rrf rb) (rrf lb) ++ (pr_ws pr0 h0 cm cJ ccf ++ (ha_ws h0 aw ax ay cJ cI w csc cst cL ++ (tt_ws t0 ka aa ba sa (.ref g0) cJ T ++ (au_ws au0 bd0 pr0 tu0 sd ++ (tt_ws tu0 uka uaa uba usa gu cJ T0 ++ (gp_ws g0 mF mE P f1 k1 Q f2 k2 G ++ (mo_ws m0 e0 (nI (t_tn T)) (nI n) (nI (t_bc T)) (lN P) (lN Q) (lN G) (lN (ckey (t_tn T) (t_kc T) (t_kp T))) (lN (t_pa T)) (lN (t_pb T)) (t_sht T) a0 a1 a2 a3 a4 a5 a6 a7 a8 a9 mb0 mb1 oc mb2 mb3 mb4 mb5 ++ (iw_ws a7 cI 256 bf ++ (iw_ws a8 cI 64 sc ++ (iw_ws a9 cI 8 st ++ (iw_ws mb0 cI 8 kS ++ (iw_ws mb1 cI 64 kR ++ (jw_ws a2 cJ 4 tf ++ (jw_ws a0 cJ 1232 nf ++ (jw_ws a1 cJ 616 cf ++ (iw_ws a4 cI 4 kf ++ (jw_ws mb2 cJ 4 ky ++ (jw_ws a3 cJ 16 lf ++ (iw_ws a5 cI 4 sf ++ (iw_ws a6 cI 64 vf ++ (jw_ws mb3 cJ 128 md ++ (jw_ws mb4 cJ 4 sh ++ iw_ws mb5 cI 64 ct))))))))))))))))))))))))))) (cx := (mo_ws m0 e0 (nI (t_tn T)) (nI n) (nI (t_bc T)) (lN P) (lN Q) (lN G) (lN (ckey (t_tn T) (t_kc T) (t_kp T))) (lN (t_pa T)) (lN (t_pb T)) (t_sht T) a0 a1 a2 a3 a4 a5 a6 a7 a8 a9 mb0 mb1 oc mb2 mb3 mb4 mb5 ++ jw_ws a0 cJ 1232 nf)) (wr := (jw_ws out cJ 1 of ++ (bb_ws b0 bd0 pr0 t0 au0 da (.ref g0) ++ (rw_ws da cJ (r8 d0 d1 d2 d3 d4 d5 d6 d7) ++ (bd_ws bd0 h0 ro lo n cR (rrf rb) (rrf lb) ++ (pr_ws pr0 h0 cm cJ ccf ++ (ha_ws h0 aw ax ay cJ cI w csc cst cL ++ (tt_ws t0 ka aa ba sa (.ref g0) cJ T ++ (au_ws au0 bd0 pr0 tu0 sd ++ (tt_ws tu0 uka uaa uba usa gu cJ T0 ++ (gp_ws g0 mF mE P f1 k1 Q f2 k2 G ++ (iw_ws a7 cI 256 bf ++ (iw_ws a8 cI 64 sc ++ (iw_ws a9 cI 8 st ++ (iw_ws mb0 cI 8 kS ++ (iw_ws mb1 cI 64 kR ++ (jw_ws a2 cJ 4 tf ++ (jw_ws a1 cJ 616 cf ++ (iw_ws a4 cI 4 kf ++ (jw_ws mb2 cJ 4 ky ++ (jw_ws a3 cJ 16 lf ++ (iw_ws a5 cI 4 sf ++ (iw_ws a6 cI 64 vf ++ (jw_ws mb3 cJ 128 md ++ (jw_ws mb4 cJ 4 sh ++ iw_ws mb5 cI 64 ct))))))))))))))))))))))))) (w1 := (mo_ws m0 1 (nI (t_tn T)) (nI n) (nI (t_bc T)) (lN P) (lN Q) (lN G) (lN (ckey (t_tn T) (t_kc T) (t_kp T))) (lN (t_pa T)) (lN (t_pb T)) (t_sht T) a0 a1 a2 a3 a4 a5 a6 a7 a8 a9 mb0 mb1 oc mb2 mb3 mb4 mb5 ++ jw_ws a0 cJ 1232 nf)) (pl := bpool rb lb cJ R Lk) hP hD [26, 33] [0, 1, 2, 3, 4, 5, 6, 7, 8, 9, 10, 11, 12, 13, 14, 15, 16, 17, 18, 19, 20, 21, 22, 23, 24, 25, 27, 28, 29, 30, 31, 32, 34, 35, 36, 37, 38, 39, 40, 41, 42] rfl rfl (by decide) (by decide) hk1 hFc hP1 hD1
  have hP := hP.part (cx := (jw_ws out cJ 1 of ++ (bb_ws b0 bd0 pr0 t0 au0 da (.ref g0) ++ (rw_ws da cJ (r8 d0 d1 d2 d3 d4 d5 d6 d7) ++ (bd_ws bd0 h0 ro lo n cR (rrf rb) (rrf lb) ++ (pr_ws pr0 h0 cm cJ ccf ++ (ha_ws h0 aw ax ay cJ cI w csc cst cL ++ (tt_ws t0 ka aa ba sa (.ref g0) cJ T ++ (au_ws au0 bd0 pr0 tu0 sd ++ (tt_ws tu0 uka uaa uba usa gu cJ T0 ++ (gp_ws g0 mF mE P f1 k1 Q f2 k2 G ++ (mo_ws m0 1 (nI (t_tn T)) (nI n) (nI (t_bc T)) (lN P) (lN Q) (lN G) (lN (ckey (t_tn T) (t_kc T) (t_kp T))) (lN (t_pa T)) (lN (t_pb T)) (t_sht T) a0 a1 a2 a3 a4 a5 a6 a7 a8 a9 mb0 mb1 oc mb2 mb3 mb4 mb5 ++ (iw_ws a7 cI 256 bf ++ (iw_ws a8 cI 64 sc ++ (iw_ws a9 cI 8 st ++ (iw_ws mb0 cI 8 kS ++ (iw_ws mb1 cI 64 kR ++ (jw_ws a2 cJ 4 tf ++ (jw_ws a0 cJ 1232 nf ++ (jw_ws a1 cJ 616 cf ++ (iw_ws a4 cI 4 kf ++ (jw_ws mb2 cJ 4 ky ++ (jw_ws a3 cJ 16 lf ++ (iw_ws a5 cI 4 sf ++ (iw_ws a6 cI 64 vf ++ (jw_ws mb3 cJ 128 md ++ (jw_ws mb4 cJ 4 sh ++ iw_ws mb5 cI 64 ct))))))))))))))))))))))))))) [0, 1, 2, 3, 4, 5, 6, 7, 8, 9, 10, 11, 12, 13, 14, 15, 16, 17, 18, 19, 20, 21, 22, 23, 24, 25, 41, 26, 27, 28, 29, 30, 31, 42, 32, 33, 34, 35, 36, 37, 38, 39, 40] rfl
  have hD := hD.part (cx := (jw_ws out cJ 1 of ++ (bb_ws b0 bd0 pr0 t0 au0 da (.ref g0) ++ (rw_ws da cJ (r8 d0 d1 d2 d3 d4 d5 d6 d7) ++ (bd_ws bd0 h0 ro lo n cR (rrf rb) (rrf lb) ++ (pr_ws pr0 h0 cm cJ ccf ++ (ha_ws h0 aw ax ay cJ cI w csc cst cL ++ (tt_ws t0 ka aa ba sa (.ref g0) cJ T ++ (au_ws au0 bd0 pr0 tu0 sd ++ (tt_ws tu0 uka uaa uba usa gu cJ T0 ++ (gp_ws g0 mF mE P f1 k1 Q f2 k2 G ++ (mo_ws m0 1 (nI (t_tn T)) (nI n) (nI (t_bc T)) (lN P) (lN Q) (lN G) (lN (ckey (t_tn T) (t_kc T) (t_kp T))) (lN (t_pa T)) (lN (t_pb T)) (t_sht T) a0 a1 a2 a3 a4 a5 a6 a7 a8 a9 mb0 mb1 oc mb2 mb3 mb4 mb5 ++ (iw_ws a7 cI 256 bf ++ (iw_ws a8 cI 64 sc ++ (iw_ws a9 cI 8 st ++ (iw_ws mb0 cI 8 kS ++ (iw_ws mb1 cI 64 kR ++ (jw_ws a2 cJ 4 tf ++ (jw_ws a0 cJ 1232 nf ++ (jw_ws a1 cJ 616 cf ++ (iw_ws a4 cI 4 kf ++ (jw_ws mb2 cJ 4 ky ++ (jw_ws a3 cJ 16 lf ++ (iw_ws a5 cI 4 sf ++ (iw_ws a6 cI 64 vf ++ (jw_ws mb3 cJ 128 md ++ (jw_ws mb4 cJ 4 sh ++ iw_ws mb5 cI 64 ct))))))))))))))))))))))))))) [0, 1, 2, 3, 4, 5, 6, 7, 8, 9, 10, 11, 12, 13, 14, 15, 16, 17, 18, 19, 20, 21, 22, 23, 24, 25, 41, 26, 27, 28, 29, 30, 31, 42, 32, 33, 34, 35, 36, 37, 38, 39, 40] (by decide) rfl
  generalize H1 = H at hP hS ⊢
  clear hPc hDc hFc hP1 hD1 hK1 ht hk1 hz1
  refine lv_lstore (lv' := [(6, .long r_9), (5, .int 1), (4, .int (nI i)), (3, .ref out), (2, .ref m0), (1, .ref b0), (0, .ref b)]) hx hb d_law_1834 hl (by decide) rfl (fun ls hl => ?_)
  refine lv_aload_n hx hb d_law_1836 rfl (lv_at hl 4 rfl) ?_
  have hPc := hP.sub (ws' := (mo_ws m0 1 (nI (t_tn T)) (nI n) (nI (t_bc T)) (lN P) (lN Q) (lN G) (lN (ckey (t_tn T) (t_kc T) (t_kp T))) (lN (t_pa T)) (lN (t_pb T)) (t_sht T) a0 a1 a2 a3 a4 a5 a6 a7 a8 a9 mb0 mb1 oc mb2 mb3 mb4 mb5)) [26] rfl
  have hKc := hK.sub (tys' := [(cJ, .long), (cI, .int)]) [0, 1] rfl
  refine va_calli (va_runV (As := []) (rest := []) ⟨hx, hb, hml, hown, hts⟩ (c_Bm_thrown l H dC dI cJ cI m0 1 (nI (t_tn T)) (nI n) (nI (t_bc T)) (lN P) (lN Q) (lN G) (lN (ckey (t_tn T) (t_kc T) (t_kp T))) (lN (t_pa T)) (lN (t_pb T)) (t_sht T) a0 a1 a2 a3 a4 a5 a6 a7 a8 a9 mb0 mb1 oc mb2 mb3 mb4 mb5 hPc) (cwV 0 hts (gw_V gk_1004 gk_1005 gk_1006 gk_7 gk_1007) rfl rfl rfl (by decide +kernel) ⟨(Nat.le_of_ble_eq_true rfl), (Nat.le_of_ble_eq_true rfl)⟩) ⟨fun a U g mk q => ⟨q.1, q.2.1, va_K.moved (u := U) (U := U.calling g mk a) (Vm.Alike.refl U.vm) q.2.2⟩, va_recv hK hP (ci := 8) (q0 := 26) rfl rfl, fun U hU hW => ⟨rfl, hU, va_K.moved hW.alike hKc⟩⟩ rfl rfl hl.1 rfl (lv_room (Nat.le_of_ble_eq_true rfl)) d_law_1837 ⟨show cells + 8 + 0 + 0 ≤ 601024 by omega, show slots + 48 + 0 + 0 ≤ 7293034 by omega⟩) hS (fun q _ h => h.elim) (fun q h => h.elim) (fun r_10 w9 t9 H1 locs ht hvm hw9 hB hz1 hk1 hS => ?_)
  obtain rfl : H = H1 := hB.symm.trans ht
  have hw9 : r_10 = 1 := hw9
  subst hw9
  clear hPc hz1 hk1 hB
  refine lv_iload hx hb d_law_1840 (lv_at hl 1 rfl) ?_
  refine lv_icmp_eq (tgt := 1847) hx hb d_law_1842 (by decide) (fun c_11 => ?_) (fun c_11 => ?_)
  · -- taken
    refine lv_iload hx hb d_law_1847 (lv_at hl 1 rfl) ?_
    refine lv_if_ne (tgt := 1863) hx hb d_law_1849 (by decide) (fun c_12 => ?_) (fun c_12 => ?_)
    · -- taken
      refine lv_goto (tgt := 1965) hx hb d_law_1863 (by decide) ?_
      refine W.widen (k := cells + 20) (n := slots + 200) (by omega) (by omega) ?_
      have hI9 : LI dC dI cJ cI cR A out b0 m0 H := LG.mk hP hD hR
      exact cont _ _ _ hS hI9 (lv_sub hl [2, 3, 4, 5, 6] rfl)
    · -- not taken
      exact absurd c_12 (by decide)
  · -- not taken
    exact absurd c_11 (by decide)
theorem d_law_1910 : decode code 1910 = .ok (.aload_n 1, 1) := by decide +kernel
theorem d_law_1911 : decode code 1911 = .ok (.aload_n 0, 1) := by decide +kernel
theorem d_law_1912 : decode code 1912 = .ok (.iload 4, 2) := by decide +kernel
theorem d_law_1914 : decode code 1914 = .ok (.iconst 1, 1) := by decide +kernel
theorem d_law_1915 : decode code 1915 = .ok (.iadd, 1) := by decide +kernel
theorem d_law_1916 : decode code 1916 = .ok (.iaload, 1) := by decide +kernel
theorem d_law_1917 : decode code 1917 = .ok (.aload_n 3, 1) := by decide +kernel
theorem d_law_1918 : decode code 1918 = .ok (.invokestatic 124, 3) := by decide +kernel
theorem d_law_1921 : decode code 1921 = .ok (.istore 5, 2) := by decide +kernel
theorem d_law_1923 : decode code 1923 = .ok (.aload_n 2, 1) := by decide +kernel
theorem d_law_1924 : decode code 1924 = .ok (.aload_n 0, 1) := by decide +kernel
theorem d_law_1925 : decode code 1925 = .ok (.iload 4, 2) := by decide +kernel
theorem d_law_1927 : decode code 1927 = .ok (.iconst 1, 1) := by decide +kernel
theorem d_law_1928 : decode code 1928 = .ok (.iadd, 1) := by decide +kernel
theorem d_law_1929 : decode code 1929 = .ok (.iaload, 1) := by decide +kernel
theorem d_law_1930 : decode code 1930 = .ok (.invokevirtual 127, 3) := by decide +kernel
theorem d_law_1933 : decode code 1933 = .ok (.lstore 6, 2) := by decide +kernel
theorem d_law_1935 : decode code 1935 = .ok (.aload_n 2, 1) := by decide +kernel
theorem d_law_1936 : decode code 1936 = .ok (.invokevirtual 78, 3) := by decide +kernel
theorem d_law_1939 : decode code 1939 = .ok (.iload 5, 2) := by decide +kernel
theorem d_law_1941 : decode code 1941 = .ok (.if_icmp .eq 5, 3) := by decide +kernel
theorem d_law_1944 : decode code 1944 = .ok (.iconst 0, 1) := by decide +kernel
theorem d_law_1945 : decode code 1945 = .ok (.ireturn, 1) := by decide +kernel
theorem d_law_1946 : decode code 1946 = .ok (.iload 5, 2) := by decide +kernel
theorem d_law_1948 : decode code 1948 = .ok (.ifCond .ne 14, 3) := by decide +kernel
theorem d_law_1951 : decode code 1951 = .ok (.aload_n 3, 1) := by decide +kernel
theorem d_law_1952 : decode code 1952 = .ok (.iconst 0, 1) := by decide +kernel
theorem d_law_1953 : decode code 1953 = .ok (.laload, 1) := by decide +kernel
theorem d_law_1954 : decode code 1954 = .ok (.lload 6, 2) := by decide +kernel
theorem d_law_1956 : decode code 1956 = .ok (.lcmp, 1) := by decide +kernel
theorem d_law_1957 : decode code 1957 = .ok (.ifCond .eq 5, 3) := by decide +kernel
theorem d_law_1960 : decode code 1960 = .ok (.iconst 0, 1) := by decide +kernel
theorem d_law_1961 : decode code 1961 = .ok (.ireturn, 1) := by decide +kernel
theorem d_law_1962 : decode code 1962 = .ok (.goto 3, 3) := by decide +kernel
set_option maxHeartbeats 16000000 in
set_option maxRecDepth 100000 in
theorem bk_count_g {p : Program} {l : Launch} {e : Env} {s : State} {m : MethodId} {below : List Frame} {meth : Method} {c : Code} {b L : Nat} {xs : Nat → Int32} {dC : Nat → ClassId} {dI : Nat → Nat → Nat} {cJ cI cR : ClassId} {A : Nat → Prop} {out b0 m0 : Nat} {rA sA wA : Nat} (C : LC p l s m meth c b L xs dC dI cJ cI cR A rA sA wA) {i cells slots : Nat} (hi : i + 14 ≤ L) (hcs : cells + 20 ≤ 601024 ∧ slots + 200 ≤ 7293034) (cont : LK p l e s m below meth c b dC dI cJ cI cR A out b0 m0 i (cells + 20) (slots + 200) 1965) {H : Heap} {locs : List Loc} {ls : Array Slot} (hS : va_S A s.heap H locs) (hI : LG dC dI cJ cI cR A out b0 m0 H) (hl : lv_has ls 8 [(4, .int (nI i)), (3, .ref out), (2, .ref m0), (1, .ref b0), (0, .ref b)]) : W p l e room_1 s m #[Value.ref b] below meth c H locs cells slots (lw_Z below #[Value.ref b] s) (F0 m 1910 ls []) := by
  obtain ⟨hnt, ⟨hx, hb, hr, hml, hown, hts0, hX, hbl, hlocks, hgv⟩, hK, hA, hbA, hZha, hZx, hZn, hZw, hL⟩ := C
  have hown : s.vm.findClass "BallotBoardLaw" = some m.cls := hown
  have hts := lw_hts hts0
  refine hI _ (fun bd0 pr0 t0 au0 da h0 ro lo rb lb cm aw ax ay ka aa ba sa tu0 uka uaa uba usa a0 a1 a2 a3 a4 a5 a6 a7 a8 a9 mb0 mb1 oc mb2 mb3 mb4 mb5 cL of w tf nf cf ky lf md sh ccf csc cst bf sc st kf sf vf ct gu d0 d1 d2 d3 d4 d5 d6 d7 e0 R Lk g0 mF mE P f1 k1 Q f2 k2 G N n sd bc al pa pb cl T T0 kd wh hP hD hR => ?_)
  have q1 := hR.1.2.2.2.1.1
  subst q1
  have q2 := hR.2.2.2.1.1
  subst q2
  have q3 := hR.2.2.2.1.2.1
  subst q3
  have q4 := hR.2.2.2.1.2.2.1
  subst q4
  have q5 := hR.2.2.2.1.2.2.2.1
  subst q5
  have q6 := hR.2.2.2.1.2.2.2.2.1
  subst q6
  obtain ⟨⟨hok, htok, hN0, htn, hkc, hn⟩, ⟨hnO, hnS, hn0S, hn0B, hbc, hsc, hsh0⟩, ⟨hgr, hrk, hrs, hrb, hko, hkP⟩, ⟨hal, hclN, hky, hpa, hmd, haP, hbP⟩, ⟨hsP, hsp, hpb, hwf, hEI, hnfR, hcfR, hkf⟩, ⟨hnfk, hkq, hsd, hsn, hsdd, h0k, hkca⟩, ⟨hPQ, h61F, hQ3, hG2, hGP, hGQ⟩, hTt, hTt0, hRT⟩ := LG_facts hR
  obtain ⟨x1, hx1⟩ : ∃ v, v = xs (i + 1) := ⟨_, rfl⟩
  by_cases hC : inN x1 11
  · -- it holds
    refine lv_aload_n hx hb d_law_1910 rfl (lv_at hl 3 rfl) ?_
    refine lv_aload_n hx hb d_law_1911 rfl (lv_at hl 4 rfl) ?_
    refine lv_iload hx hb d_law_1912 (lv_at hl 0 rfl) ?_
    refine lv_iconst (v := 1) hx hb d_law_1914 (by decide) ?_
    refine lv_iadd hx hb d_law_1915 ?_
    rw [show ((nI i) + 1 : Int32) = nI (i + 1) from nI_add _ 1]
    refine va_sld hx hb hX hbl hbA hS (vp_in_nI (by omega) (by omega)) d_law_1916 ?_
    rw [show (xs (nI (i + 1)).toNatClampNeg : Int32) = xs (i + 1) from by rw [nI_clamp (by omega)]]
    rw [show (xs (i + 1) : Int32) = x1 from hx1.symm]
    refine lv_aload_n hx hb d_law_1917 rfl (lv_at hl 1 rfl) ?_
    have hPc := hP.sub (ws' := (jw_ws out cJ 1 of ++ (bb_ws b0 bd0 pr0 t0 au0 da (.ref g0) ++ (tt_ws t0 ka aa ba sa (.ref g0) cJ T ++ (bo_ws bd0 h0 ro lo n ++ gp_ws g0 mF mE P f1 k1 Q f2 k2 G))))) [0, 1, 12, 13, 14, 15, 16, 3, 23, 24, 25] rfl
    have hDc := hD.sub (ws' := (jw_ws out cJ 1 of ++ (bb_ws b0 bd0 pr0 t0 au0 da (.ref g0) ++ (tt_ws t0 ka aa ba sa (.ref g0) cJ T ++ (bo_ws bd0 h0 ro lo n ++ gp_ws g0 mF mE P f1 k1 Q f2 k2 G))))) [0, 1, 12, 13, 14, 15, 16, 3, 23, 24, 25] (by decide) rfl
    have hKc := hK.sub (tys' := [(cJ, .long), (cI, .int), (cR, .array .long)]) [0, 1, 2] rfl
    have hFc := va_free (wc := (jw_ws out cJ 1 of ++ (bb_ws b0 bd0 pr0 t0 au0 da (.ref g0) ++ (tt_ws t0 ka aa ba sa (.ref g0) cJ T ++ (bo_ws bd0 h0 ro lo n ++ gp_ws g0 mF mE P f1 k1 Q f2 k2 G))))) hD hS hA [0, 1, 12, 13, 14, 15, 16, 3, 23, 24, 25] rfl
    have hZc0 : xz (va_A (jw_ws out cJ 1 of ++ (bb_ws b0 bd0 pr0 t0 au0 da (.ref g0) ++ (tt_ws t0 ka aa ba sa (.ref g0) cJ T ++ (bo_ws bd0 h0 ro lo n ++ gp_ws g0 mF mE P f1 k1 Q f2 k2 G)))) H.size) s H := (hZx.kept hS.2.1).narrow hFc
    have hZc1 : nc_Z s := hZn
    refine vx_calli (vx_runSX (hh := h_Lw_count) (As := [.ref b0, .int x1, .ref out]) (rest := []) ⟨hx, hb, hml, hown, hts⟩ (c_Lw_count_g0 l hnt dC dI cJ cI cR H.size b0 bd0 pr0 t0 au0 da ka aa ba sa T h0 ro lo n g0 mF mE P f1 k1 Q f2 k2 G x1 out of hok hsh0 htn hkc hn hbc hsc hC) (vx_cwSW 3 hts (gw_Sv gk_817 gk_818 gk_0 gk_819) rfl rfl rfl (by decide +kernel) ⟨(Nat.le_of_ble_eq_true rfl), (Nat.le_of_ble_eq_true rfl)⟩) ⟨fun a U g mk q => by obtain ⟨q0, q1, qP, qK, qD, qZ0, qZ1⟩ := q; exact ⟨q0, q1, qP, va_K.moved (u := U) (U := U.calling g mk a) (Vm.Alike.refl U.vm) qK, qD, xz.same (u := U) (U := U.calling g mk a) rfl qZ0, nc_Z.moved (u := U) (U := U.calling g mk a) (Vm.Alike.refl U.vm) qZ1⟩, fun U hU hW => ⟨rfl, by rw [hU], by rw [hU]; exact hPc, va_K.moved hW.alike hKc, hDc.weaken (fun _ _ _ _ => trivial), by rw [hU]; exact xz.warm hW hZc0, nc_Z.moved hW.alike hZc1⟩⟩ rfl rfl hl.1 rfl (lv_room (Nat.le_of_ble_eq_true rfl)) d_law_1918 ⟨show cells + 8 ≤ 601024 by omega, show slots + 48 ≤ 7293034 by omega⟩) hS (fun q _ h => hFc q h) hFc (fun q _ h => hFc q h) (fun E9 ce9 q9 u8 t9 H1 locs ht hvm hpx hbx hz1 hk1 hS hce hcv hcl => hpx.elim) (fun r_1 u9 t9 H1 locs ht hvm hw hB hz1 hk1 hS => ?_)
    obtain ⟨hP1, hK1, hD1⟩ := hB
    rw [ht] at hP1
    obtain ⟨hP, hD⟩ := va_joinQ (X := (jw_ws out cJ 1 of ++ (bb_ws b0 bd0 pr0 t0 au0 da (.ref g0) ++ (rw_ws da cJ (r8 d0 d1 d2 d3 d4 d5 d6 d7) ++ (bd_ws bd0 h0 ro lo n cR (rrf rb) (rrf lb) ++ (pr_ws pr0 h0 cm cJ ccf ++ (ha_ws h0 aw ax ay cJ cI w csc cst cL ++ (tt_ws t0 ka aa ba sa (.ref g0) cJ T ++ (au_ws au0 bd0 pr0 tu0 sd ++ (tt_ws tu0 uka uaa uba usa gu cJ T0 ++ (gp_ws g0 mF mE P f1 k1 Q f2 k2 G ++ (mo_ws m0 e0 (nI (t_tn T)) (nI n) (nI (t_bc T)) (lN P) (lN Q) (lN G) (lN (ckey (t_tn T) (t_kc T) (t_kp T))) (lN (t_pa T)) (lN (t_pb T)) (t_sht T) a0 a1 a2 a3 a4 a5 a6 a7 a8 a9 mb0 mb1 oc mb2 mb3 mb4 mb5 ++ (iw_ws a7 cI 256 bf ++ (iw_ws a8 cI 64 sc ++ (iw_ws a9 cI 8 st ++ (iw_ws mb0 cI 8 kS ++ (iw_ws mb1 cI 64 kR ++ (jw_ws a2 cJ 4 tf ++ (jw_ws a0 cJ 1232 nf ++ (jw_ws a1 cJ 616 cf ++ (iw_ws a4 cI 4 kf ++ (jw_ws mb2 cJ 4 ky ++ (jw_ws a3 cJ 16 lf ++ (iw_ws a5 cI 4 sf ++ (iw_ws a6 cI 64 vf ++ (jw_ws mb3 cJ 128 md ++ (jw_ws mb4 cJ 4 sh ++ iw_ws mb5 cI 64 ct))))))))))))))))))))))))))) (cx := (jw_ws out cJ 1 of ++ (bb_ws b0 bd0 pr0 t0 au0 da (.ref g0) ++ (tt_ws t0 ka aa ba sa (.ref g0) cJ T ++ (bo_ws bd0 h0 ro lo n ++ gp_ws g0 mF mE P f1 k1 Q f2 k2 G))))) (wr := (rw_ws da cJ (r8 d0 d1 d2 d3 d4 d5 d6 d7) ++ ([(ro, .inl (cR, 154, .inr (.inr (.inr (.inr (rrf rb))))))] ++ ([(lo, .inl (cR, 154, .inr (.inr (.inr (.inr (rrf lb))))))] ++ (pr_ws pr0 h0 cm cJ ccf ++ (ha_ws h0 aw ax ay cJ cI w csc cst cL ++ (au_ws au0 bd0 pr0 tu0 sd ++ (tt_ws tu0 uka uaa uba usa gu cJ T0 ++ (mo_ws m0 e0 (nI (t_tn T)) (nI n) (nI (t_bc T)) (lN P) (lN Q) (lN G) (lN (ckey (t_tn T) (t_kc T) (t_kp T))) (lN (t_pa T)) (lN (t_pb T)) (t_sht T) a0 a1 a2 a3 a4 a5 a6 a7 a8 a9 mb0 mb1 oc mb2 mb3 mb4 mb5 ++ (iw_ws a7 cI 256 bf ++ (iw_ws a8 cI 64 sc ++ (iw_ws a9 cI 8 st ++ (iw_ws mb0 cI 8 kS ++ (iw_ws mb1 cI 64 kR ++ (jw_ws a2 cJ 4 tf ++ (jw_ws a0 cJ 1232 nf ++ (jw_ws a1 cJ 616 cf ++ (iw_ws a4 cI 4 kf ++ (jw_ws mb2 cJ 4 ky ++ (jw_ws a3 cJ 16 lf ++ (iw_ws a5 cI 4 sf ++ (iw_ws a6 cI 64 vf ++ (jw_ws mb3 cJ 128 md ++ (jw_ws mb4 cJ 4 sh ++ iw_ws mb5 cI 64 ct)))))))))))))))))))))))) (w1 := (jw_ws out cJ 1 (vp_updL of 0 (cntC T P Q G n u9)) ++ (bb_ws b0 bd0 pr0 t0 au0 da (.ref g0) ++ (tt_ws t0 ka aa ba sa (.ref g0) cJ T ++ (bo_ws bd0 h0 ro lo n ++ gp_ws g0 mF mE P f1 k1 Q f2 k2 G))))) (pl := bpool rb lb cJ R Lk) hP hD [0, 1, 12, 13, 14, 15, 16, 3, 23, 24, 25] [2, 4, 5, 6, 7, 8, 9, 10, 11, 17, 18, 19, 20, 21, 22, 26, 27, 28, 29, 30, 31, 32, 33, 34, 35, 36, 37, 38, 39, 40, 41, 42] rfl rfl (by decide) (by decide) hk1 hFc hP1 hD1
    have hP := hP.part (cx := (jw_ws out cJ 1 (vp_updL of 0 (cntC T P Q G n u9)) ++ (bb_ws b0 bd0 pr0 t0 au0 da (.ref g0) ++ (rw_ws da cJ (r8 d0 d1 d2 d3 d4 d5 d6 d7) ++ (bd_ws bd0 h0 ro lo n cR (rrf rb) (rrf lb) ++ (pr_ws pr0 h0 cm cJ ccf ++ (ha_ws h0 aw ax ay cJ cI w csc cst cL ++ (tt_ws t0 ka aa ba sa (.ref g0) cJ T ++ (au_ws au0 bd0 pr0 tu0 sd ++ (tt_ws tu0 uka uaa uba usa gu cJ T0 ++ (gp_ws g0 mF mE P f1 k1 Q f2 k2 G ++ (mo_ws m0 e0 (nI (t_tn T)) (nI n) (nI (t_bc T)) (lN P) (lN Q) (lN G) (lN (ckey (t_tn T) (t_kc T) (t_kp T))) (lN (t_pa T)) (lN (t_pb T)) (t_sht T) a0 a1 a2 a3 a4 a5 a6 a7 a8 a9 mb0 mb1 oc mb2 mb3 mb4 mb5 ++ (iw_ws a7 cI 256 bf ++ (iw_ws a8 cI 64 sc ++ (iw_ws a9 cI 8 st ++ (iw_ws mb0 cI 8 kS ++ (iw_ws mb1 cI 64 kR ++ (jw_ws a2 cJ 4 tf ++ (jw_ws a0 cJ 1232 nf ++ (jw_ws a1 cJ 616 cf ++ (iw_ws a4 cI 4 kf ++ (jw_ws mb2 cJ 4 ky ++ (jw_ws a3 cJ 16 lf ++ (iw_ws a5 cI 4 sf ++ (iw_ws a6 cI 64 vf ++ (jw_ws mb3 cJ 128 md ++ (jw_ws mb4 cJ 4 sh ++ iw_ws mb5 cI 64 ct))))))))))))))))))))))))))) [32, 33, 0, 39, 1, 2, 3, 4, 5, 6, 7, 8, 34, 35, 36, 37, 38, 9, 10, 11, 12, 13, 14, 40, 41, 42, 15, 16, 17, 18, 19, 20, 21, 22, 23, 24, 25, 26, 27, 28, 29, 30, 31] rfl
    have hD := hD.part (cx := (jw_ws out cJ 1 (vp_updL of 0 (cntC T P Q G n u9)) ++ (bb_ws b0 bd0 pr0 t0 au0 da (.ref g0) ++ (rw_ws da cJ (r8 d0 d1 d2 d3 d4 d5 d6 d7) ++ (bd_ws bd0 h0 ro lo n cR (rrf rb) (rrf lb) ++ (pr_ws pr0 h0 cm cJ ccf ++ (ha_ws h0 aw ax ay cJ cI w csc cst cL ++ (tt_ws t0 ka aa ba sa (.ref g0) cJ T ++ (au_ws au0 bd0 pr0 tu0 sd ++ (tt_ws tu0 uka uaa uba usa gu cJ T0 ++ (gp_ws g0 mF mE P f1 k1 Q f2 k2 G ++ (mo_ws m0 e0 (nI (t_tn T)) (nI n) (nI (t_bc T)) (lN P) (lN Q) (lN G) (lN (ckey (t_tn T) (t_kc T) (t_kp T))) (lN (t_pa T)) (lN (t_pb T)) (t_sht T) a0 a1 a2 a3 a4 a5 a6 a7 a8 a9 mb0 mb1 oc mb2 mb3 mb4 mb5 ++ (iw_ws a7 cI 256 bf ++ (iw_ws a8 cI 64 sc ++ (iw_ws a9 cI 8 st ++ (iw_ws mb0 cI 8 kS ++ (iw_ws mb1 cI 64 kR ++ (jw_ws a2 cJ 4 tf ++ (jw_ws a0 cJ 1232 nf ++ (jw_ws a1 cJ 616 cf ++ (iw_ws a4 cI 4 kf ++ (jw_ws mb2 cJ 4 ky ++ (jw_ws a3 cJ 16 lf ++ (iw_ws a5 cI 4 sf ++ (iw_ws a6 cI 64 vf ++ (jw_ws mb3 cJ 128 md ++ (jw_ws mb4 cJ 4 sh ++ iw_ws mb5 cI 64 ct))))))))))))))))))))))))))) [32, 33, 0, 39, 1, 2, 3, 4, 5, 6, 7, 8, 34, 35, 36, 37, 38, 9, 10, 11, 12, 13, 14, 40, 41, 42, 15, 16, 17, 18, 19, 20, 21, 22, 23, 24, 25, 26, 27, 28, 29, 30, 31] (by decide) rfl
    generalize H1 = H at hP hS ⊢
    clear hPc hDc hFc hP1 hD1 hK1 ht hk1 hz1
    have hr9 : r_1 = 0 := hw.1
    subst hr9
    have hw := hw.2
    obtain ⟨hi9, hxk⟩ := hw
    refine lv_istore (lv' := [(5, .int 0), (4, .int (nI i)), (3, .ref out), (2, .ref m0), (1, .ref b0), (0, .ref b)]) hx hb d_law_1921 hl (by decide) rfl (fun ls hl => ?_)
    refine lv_aload_n hx hb d_law_1923 rfl (lv_at hl 3 rfl) ?_
    refine lv_aload_n hx hb d_law_1924 rfl (lv_at hl 5 rfl) ?_
    refine lv_iload hx hb d_law_1925 (lv_at hl 1 rfl) ?_
    refine lv_iconst (v := 1) hx hb d_law_1927 (by decide) ?_
    refine lv_iadd hx hb d_law_1928 ?_
    rw [show ((nI i) + 1 : Int32) = nI (i + 1) from nI_add _ 1]
    refine va_sld hx hb hX hbl hbA hS (vp_in_nI (by omega) (by omega)) d_law_1929 ?_
    rw [show (xs (nI (i + 1)).toNatClampNeg : Int32) = xs (i + 1) from by rw [nI_clamp (by omega)]]
    rw [show (xs (i + 1) : Int32) = nI u9 from (hx1.symm.trans hxk)]
    have hPc := hP.sub (ws' := (mo_ws m0 e0 (nI (t_tn T)) (nI n) (nI (t_bc T)) (lN P) (lN Q) (lN G) (lN (ckey (t_tn T) (t_kc T) (t_kp T))) (lN (t_pa T)) (lN (t_pb T)) (t_sht T) a0 a1 a2 a3 a4 a5 a6 a7 a8 a9 mb0 mb1 oc mb2 mb3 mb4 mb5 ++ (iw_ws a4 cI 4 kf ++ iw_ws a5 cI 4 sf))) [26, 35, 38] rfl
    have hDc := hD.sub (ws' := (mo_ws m0 e0 (nI (t_tn T)) (nI n) (nI (t_bc T)) (lN P) (lN Q) (lN G) (lN (ckey (t_tn T) (t_kc T) (t_kp T))) (lN (t_pa T)) (lN (t_pb T)) (t_sht T) a0 a1 a2 a3 a4 a5 a6 a7 a8 a9 mb0 mb1 oc mb2 mb3 mb4 mb5 ++ (iw_ws a4 cI 4 kf ++ iw_ws a5 cI 4 sf))) [26, 35, 38] (by decide) rfl
    have hKc := hK.sub (tys' := [(cJ, .long), (cI, .int)]) [0, 1] rfl
    have hFc := va_free (wc := (mo_ws m0 e0 (nI (t_tn T)) (nI n) (nI (t_bc T)) (lN P) (lN Q) (lN G) (lN (ckey (t_tn T) (t_kc T) (t_kp T))) (lN (t_pa T)) (lN (t_pb T)) (t_sht T) a0 a1 a2 a3 a4 a5 a6 a7 a8 a9 mb0 mb1 oc mb2 mb3 mb4 mb5 ++ (iw_ws a4 cI 4 kf ++ iw_ws a5 cI 4 sf))) hD hS hA [26, 35, 38] rfl
    refine va_calll (va_runV (As := [.int (nI u9)]) (rest := []) ⟨hx, hb, hml, hown, hts⟩ (c_Bm_count_0 l dC dI cJ cI H.size m0 e0 (t_tn T) n (t_bc T) P Q G (ckey (t_tn T) (t_kc T) (t_kp T)) (t_pa T) (t_pb T) (t_sht T) a0 a1 a2 a3 a4 a5 a6 a7 a8 a9 mb0 mb1 oc mb2 mb3 mb4 mb5 kf sf (t_ko T) (t_so T) ky sh u9 htn hn hsh0 hbc hrk hrs hi9) (cwV 1 hts (gw_V gk_1198 gk_1199 gk_1200 gk_7 gk_1201) rfl rfl rfl (by decide +kernel) ⟨(Nat.le_of_ble_eq_true rfl), (Nat.le_of_ble_eq_true rfl)⟩) ⟨fun a U g mk q => by obtain ⟨q0, q1, qP, qK, qD⟩ := q; exact ⟨q0, q1, qP, va_K.moved (u := U) (U := U.calling g mk a) (Vm.Alike.refl U.vm) qK, qD⟩, va_recv hK hP (ci := 8) (q0 := 26) rfl rfl, fun U hU hW => ⟨rfl, by rw [hU], by rw [hU]; exact hPc, va_K.moved hW.alike hKc, hDc.weaken (fun _ _ _ _ => trivial)⟩⟩ rfl rfl hl.1 rfl (lv_room (Nat.le_of_ble_eq_true rfl)) d_law_1930 ⟨show cells + 8 + 0 ≤ 601024 by omega, show slots + 48 + 0 ≤ 7293034 by omega⟩) hS (fun q _ h => hFc q h) hFc (fun r_2 v9 t9 H1 locs ht hvm hw hB hz1 hk1 hS => ?_)
    obtain ⟨hP1, hK1, hD1⟩ := hB
    rw [ht] at hP1
    obtain ⟨hP, hD⟩ := va_joinQ (X := (jw_ws out cJ 1 (vp_updL of 0 (cntC T P Q G n u9)) ++ (bb_ws b0 bd0 pr0 t0 au0 da (.ref g0) ++ (rw_ws da cJ (r8 d0 d1 d2 d3 d4 d5 d6 d7) ++ (bd_ws bd0 h0 ro lo n cR (rrf rb) (rrf lb) ++ (pr_ws pr0 h0 cm cJ ccf ++ (ha_ws h0 aw ax ay cJ cI w csc cst cL ++ (tt_ws t0 ka aa ba sa (.ref g0) cJ T ++ (au_ws au0 bd0 pr0 tu0 sd ++ (tt_ws tu0 uka uaa uba usa gu cJ T0 ++ (gp_ws g0 mF mE P f1 k1 Q f2 k2 G ++ (mo_ws m0 e0 (nI (t_tn T)) (nI n) (nI (t_bc T)) (lN P) (lN Q) (lN G) (lN (ckey (t_tn T) (t_kc T) (t_kp T))) (lN (t_pa T)) (lN (t_pb T)) (t_sht T) a0 a1 a2 a3 a4 a5 a6 a7 a8 a9 mb0 mb1 oc mb2 mb3 mb4 mb5 ++ (iw_ws a7 cI 256 bf ++ (iw_ws a8 cI 64 sc ++ (iw_ws a9 cI 8 st ++ (iw_ws mb0 cI 8 kS ++ (iw_ws mb1 cI 64 kR ++ (jw_ws a2 cJ 4 tf ++ (jw_ws a0 cJ 1232 nf ++ (jw_ws a1 cJ 616 cf ++ (iw_ws a4 cI 4 kf ++ (jw_ws mb2 cJ 4 ky ++ (jw_ws a3 cJ 16 lf ++ (iw_ws a5 cI 4 sf ++ (iw_ws a6 cI 64 vf ++ (jw_ws mb3 cJ 128 md ++ (jw_ws mb4 cJ 4 sh ++ iw_ws mb5 cI 64 ct))))))))))))))))))))))))))) (cx := (mo_ws m0 e0 (nI (t_tn T)) (nI n) (nI (t_bc T)) (lN P) (lN Q) (lN G) (lN (ckey (t_tn T) (t_kc T) (t_kp T))) (lN (t_pa T)) (lN (t_pb T)) (t_sht T) a0 a1 a2 a3 a4 a5 a6 a7 a8 a9 mb0 mb1 oc mb2 mb3 mb4 mb5 ++ (iw_ws a4 cI 4 kf ++ iw_ws a5 cI 4 sf))) (wr := (jw_ws out cJ 1 (vp_updL of 0 (cntC T P Q G n u9)) ++ (bb_ws b0 bd0 pr0 t0 au0 da (.ref g0) ++ (rw_ws da cJ (r8 d0 d1 d2 d3 d4 d5 d6 d7) ++ (bd_ws bd0 h0 ro lo n cR (rrf rb) (rrf lb) ++ (pr_ws pr0 h0 cm cJ ccf ++ (ha_ws h0 aw ax ay cJ cI w csc cst cL ++ (tt_ws t0 ka aa ba sa (.ref g0) cJ T ++ (au_ws au0 bd0 pr0 tu0 sd ++ (tt_ws tu0 uka uaa uba usa gu cJ T0 ++ (gp_ws g0 mF mE P f1 k1 Q f2 k2 G ++ (iw_ws a7 cI 256 bf ++ (iw_ws a8 cI 64 sc ++ (iw_ws a9 cI 8 st ++ (iw_ws mb0 cI 8 kS ++ (iw_ws mb1 cI 64 kR ++ (jw_ws a2 cJ 4 tf ++ (jw_ws a0 cJ 1232 nf ++ (jw_ws a1 cJ 616 cf ++ (jw_ws mb2 cJ 4 ky ++ (jw_ws a3 cJ 16 lf ++ (iw_ws a6 cI 64 vf ++ (jw_ws mb3 cJ 128 md ++ (jw_ws mb4 cJ 4 sh ++ iw_ws mb5 cI 64 ct)))))))))))))))))))))))) (w1 := (mo_ws m0 0 (nI (t_tn T)) (nI n) (nI (t_bc T)) (lN P) (lN Q) (lN G) (lN (ckey (t_tn T) (t_kc T) (t_kp T))) (lN (t_pa T)) (lN (t_pb T)) (t_sht T) a0 a1 a2 a3 a4 a5 a6 a7 a8 a9 mb0 mb1 oc mb2 mb3 mb4 mb5 ++ (iw_ws a4 cI 4 kf ++ iw_ws a5 cI 4 sf))) (pl := bpool rb lb cJ R Lk) hP hD [26, 35, 38] [0, 1, 2, 3, 4, 5, 6, 7, 8, 9, 10, 11, 12, 13, 14, 15, 16, 17, 18, 19, 20, 21, 22, 23, 24, 25, 27, 28, 29, 30, 31, 32, 33, 34, 36, 37, 39, 40, 41, 42] rfl rfl (by decide) (by decide) hk1 hFc hP1 hD1
    have hP := hP.part (cx := (jw_ws out cJ 1 (vp_updL of 0 (cntC T P Q G n u9)) ++ (bb_ws b0 bd0 pr0 t0 au0 da (.ref g0) ++ (rw_ws da cJ (r8 d0 d1 d2 d3 d4 d5 d6 d7) ++ (bd_ws bd0 h0 ro lo n cR (rrf rb) (rrf lb) ++ (pr_ws pr0 h0 cm cJ ccf ++ (ha_ws h0 aw ax ay cJ cI w csc cst cL ++ (tt_ws t0 ka aa ba sa (.ref g0) cJ T ++ (au_ws au0 bd0 pr0 tu0 sd ++ (tt_ws tu0 uka uaa uba usa gu cJ T0 ++ (gp_ws g0 mF mE P f1 k1 Q f2 k2 G ++ (mo_ws m0 0 (nI (t_tn T)) (nI n) (nI (t_bc T)) (lN P) (lN Q) (lN G) (lN (ckey (t_tn T) (t_kc T) (t_kp T))) (lN (t_pa T)) (lN (t_pb T)) (t_sht T) a0 a1 a2 a3 a4 a5 a6 a7 a8 a9 mb0 mb1 oc mb2 mb3 mb4 mb5 ++ (iw_ws a7 cI 256 bf ++ (iw_ws a8 cI 64 sc ++ (iw_ws a9 cI 8 st ++ (iw_ws mb0 cI 8 kS ++ (iw_ws mb1 cI 64 kR ++ (jw_ws a2 cJ 4 tf ++ (jw_ws a0 cJ 1232 nf ++ (jw_ws a1 cJ 616 cf ++ (iw_ws a4 cI 4 kf ++ (jw_ws mb2 cJ 4 ky ++ (jw_ws a3 cJ 16 lf ++ (iw_ws a5 cI 4 sf ++ (iw_ws a6 cI 64 vf ++ (jw_ws mb3 cJ 128 md ++ (jw_ws mb4 cJ 4 sh ++ iw_ws mb5 cI 64 ct))))))))))))))))))))))))))) [0, 1, 2, 3, 4, 5, 6, 7, 8, 9, 10, 11, 12, 13, 14, 15, 16, 17, 18, 19, 20, 21, 22, 23, 24, 25, 40, 26, 27, 28, 29, 30, 31, 32, 33, 41, 34, 35, 42, 36, 37, 38, 39] rfl
    have hD := hD.part (cx := (jw_ws out cJ 1 (vp_updL of 0 (cntC T P Q G n u9)) ++ (bb_ws b0 bd0 pr0 t0 au0 da (.ref g0) ++ (rw_ws da cJ (r8 d0 d1 d2 d3 d4 d5 d6 d7) ++ (bd_ws bd0 h0 ro lo n cR (rrf rb) (rrf lb) ++ (pr_ws pr0 h0 cm cJ ccf ++ (ha_ws h0 aw ax ay cJ cI w csc cst cL ++ (tt_ws t0 ka aa ba sa (.ref g0) cJ T ++ (au_ws au0 bd0 pr0 tu0 sd ++ (tt_ws tu0 uka uaa uba usa gu cJ T0 ++ (gp_ws g0 mF mE P f1 k1 Q f2 k2 G ++ (mo_ws m0 0 (nI (t_tn T)) (nI n) (nI (t_bc T)) (lN P) (lN Q) (lN G) (lN (ckey (t_tn T) (t_kc T) (t_kp T))) (lN (t_pa T)) (lN (t_pb T)) (t_sht T) a0 a1 a2 a3 a4 a5 a6 a7 a8 a9 mb0 mb1 oc mb2 mb3 mb4 mb5 ++ (iw_ws a7 cI 256 bf ++ (iw_ws a8 cI 64 sc ++ (iw_ws a9 cI 8 st ++ (iw_ws mb0 cI 8 kS ++ (iw_ws mb1 cI 64 kR ++ (jw_ws a2 cJ 4 tf ++ (jw_ws a0 cJ 1232 nf ++ (jw_ws a1 cJ 616 cf ++ (iw_ws a4 cI 4 kf ++ (jw_ws mb2 cJ 4 ky ++ (jw_ws a3 cJ 16 lf ++ (iw_ws a5 cI 4 sf ++ (iw_ws a6 cI 64 vf ++ (jw_ws mb3 cJ 128 md ++ (jw_ws mb4 cJ 4 sh ++ iw_ws mb5 cI 64 ct))))))))))))))))))))))))))) [0, 1, 2, 3, 4, 5, 6, 7, 8, 9, 10, 11, 12, 13, 14, 15, 16, 17, 18, 19, 20, 21, 22, 23, 24, 25, 40, 26, 27, 28, 29, 30, 31, 32, 33, 41, 34, 35, 42, 36, 37, 38, 39] (by decide) rfl
    generalize H1 = H at hP hS ⊢
    clear hPc hDc hFc hP1 hD1 hK1 ht hk1 hz1
    have hr8 := hw
    subst hr8
    refine lv_lstore (lv' := [(6, .long (cntM P Q G (ckey (t_tn T) (t_kc T) (t_kp T)) (t_pa T) (t_pb T) n (t_bc T) (t_tn T) (t_ko T) (t_so T) (t_sht T) u9)), (5, .int 0), (4, .int (nI i)), (3, .ref out), (2, .ref m0), (1, .ref b0), (0, .ref b)]) hx hb d_law_1933 hl (by decide) rfl (fun ls hl => ?_)
    refine lv_aload_n hx hb d_law_1935 rfl (lv_at hl 4 rfl) ?_
    have hPc := hP.sub (ws' := (mo_ws m0 0 (nI (t_tn T)) (nI n) (nI (t_bc T)) (lN P) (lN Q) (lN G) (lN (ckey (t_tn T) (t_kc T) (t_kp T))) (lN (t_pa T)) (lN (t_pb T)) (t_sht T) a0 a1 a2 a3 a4 a5 a6 a7 a8 a9 mb0 mb1 oc mb2 mb3 mb4 mb5)) [26] rfl
    have hKc := hK.sub (tys' := [(cJ, .long), (cI, .int)]) [0, 1] rfl
    refine va_calli (va_runV (As := []) (rest := []) ⟨hx, hb, hml, hown, hts⟩ (c_Bm_thrown l H dC dI cJ cI m0 0 (nI (t_tn T)) (nI n) (nI (t_bc T)) (lN P) (lN Q) (lN G) (lN (ckey (t_tn T) (t_kc T) (t_kp T))) (lN (t_pa T)) (lN (t_pb T)) (t_sht T) a0 a1 a2 a3 a4 a5 a6 a7 a8 a9 mb0 mb1 oc mb2 mb3 mb4 mb5 hPc) (cwV 0 hts (gw_V gk_1004 gk_1005 gk_1006 gk_7 gk_1007) rfl rfl rfl (by decide +kernel) ⟨(Nat.le_of_ble_eq_true rfl), (Nat.le_of_ble_eq_true rfl)⟩) ⟨fun a U g mk q => ⟨q.1, q.2.1, va_K.moved (u := U) (U := U.calling g mk a) (Vm.Alike.refl U.vm) q.2.2⟩, va_recv hK hP (ci := 8) (q0 := 26) rfl rfl, fun U hU hW => ⟨rfl, hU, va_K.moved hW.alike hKc⟩⟩ rfl rfl hl.1 rfl (lv_room (Nat.le_of_ble_eq_true rfl)) d_law_1936 ⟨show cells + 8 + 0 + 0 ≤ 601024 by omega, show slots + 48 + 0 + 0 ≤ 7293034 by omega⟩) hS (fun q _ h => h.elim) (fun q h => h.elim) (fun r_3 w9 t9 H1 locs ht hvm hw9 hB hz1 hk1 hS => ?_)
    obtain rfl : H = H1 := hB.symm.trans ht
    have hw9 : r_3 = 0 := hw9
    subst hw9
    clear hPc hz1 hk1 hB
    refine lv_iload hx hb d_law_1939 (lv_at hl 1 rfl) ?_
    refine lv_icmp_eq (tgt := 1946) hx hb d_law_1941 (by decide) (fun c_4 => ?_) (fun c_4 => ?_)
    · -- taken
      refine lv_iload hx hb d_law_1946 (lv_at hl 1 rfl) ?_
      refine lv_if_ne (tgt := 1962) hx hb d_law_1948 (by decide) (fun c_5 => ?_) (fun c_5 => ?_)
      · -- taken
        exact absurd rfl c_5
      · -- not taken
        refine lv_aload_n hx hb d_law_1951 rfl (lv_at hl 3 rfl) ?_
        refine lv_iconst (v := 0) hx hb d_law_1952 (by decide) ?_
        refine va_lald hx hb hK hP 0 0 rfl rfl (vp_lit rfl) d_law_1953 ?_
        refine lv_topl (fun v_6 ev_6 => ?_)
        obtain rfl : v_6 = cntC T P Q G n u9 := ev_6.trans rfl
        refine lv_lload hx hb d_law_1954 (lv_at hl 0 rfl) ?_
        refine W.lcmp hx hb d_law_1956 ?_
        refine lv_if_eq (tgt := 1962) hx hb d_law_1957 (by decide) (fun c_7 => ?_) (fun c_7 => ?_)
        · -- taken
          refine lv_goto (tgt := 1965) hx hb d_law_1962 (by decide) ?_
          refine W.widen (k := cells + 20) (n := slots + 200) (by omega) (by omega) ?_
          have hI9 : LI dC dI cJ cI cR A out b0 m0 H := LG.mk hP hD hR
          exact cont _ _ _ hS hI9 (lv_sub hl [2, 3, 4, 5, 6] rfl)
        · -- not taken
          exact absurd (lgc (cnt_eq hRT u9)) c_7
    · -- not taken
      exact absurd c_4 (by decide)
  refine lv_aload_n hx hb d_law_1910 rfl (lv_at hl 3 rfl) ?_
  refine lv_aload_n hx hb d_law_1911 rfl (lv_at hl 4 rfl) ?_
  refine lv_iload hx hb d_law_1912 (lv_at hl 0 rfl) ?_
  refine lv_iconst (v := 1) hx hb d_law_1914 (by decide) ?_
  refine lv_iadd hx hb d_law_1915 ?_
  rw [show ((nI i) + 1 : Int32) = nI (i + 1) from nI_add _ 1]
  refine va_sld hx hb hX hbl hbA hS (vp_in_nI (by omega) (by omega)) d_law_1916 ?_
  rw [show (xs (nI (i + 1)).toNatClampNeg : Int32) = xs (i + 1) from by rw [nI_clamp (by omega)]]
  rw [show (xs (i + 1) : Int32) = x1 from hx1.symm]
  refine lv_aload_n hx hb d_law_1917 rfl (lv_at hl 1 rfl) ?_
  have hPc := hP.sub (ws' := (jw_ws out cJ 1 of ++ (bb_ws b0 bd0 pr0 t0 au0 da (.ref g0) ++ (tt_ws t0 ka aa ba sa (.ref g0) cJ T ++ (bo_ws bd0 h0 ro lo n ++ gp_ws g0 mF mE P f1 k1 Q f2 k2 G))))) [0, 1, 12, 13, 14, 15, 16, 3, 23, 24, 25] rfl
  have hDc := hD.sub (ws' := (jw_ws out cJ 1 of ++ (bb_ws b0 bd0 pr0 t0 au0 da (.ref g0) ++ (tt_ws t0 ka aa ba sa (.ref g0) cJ T ++ (bo_ws bd0 h0 ro lo n ++ gp_ws g0 mF mE P f1 k1 Q f2 k2 G))))) [0, 1, 12, 13, 14, 15, 16, 3, 23, 24, 25] (by decide) rfl
  have hKc := hK.sub (tys' := [(cJ, .long), (cI, .int), (cR, .array .long)]) [0, 1, 2] rfl
  have hFc := va_free (wc := (jw_ws out cJ 1 of ++ (bb_ws b0 bd0 pr0 t0 au0 da (.ref g0) ++ (tt_ws t0 ka aa ba sa (.ref g0) cJ T ++ (bo_ws bd0 h0 ro lo n ++ gp_ws g0 mF mE P f1 k1 Q f2 k2 G))))) hD hS hA [0, 1, 12, 13, 14, 15, 16, 3, 23, 24, 25] rfl
  have hZc0 : xz (va_A (jw_ws out cJ 1 of ++ (bb_ws b0 bd0 pr0 t0 au0 da (.ref g0) ++ (tt_ws t0 ka aa ba sa (.ref g0) cJ T ++ (bo_ws bd0 h0 ro lo n ++ gp_ws g0 mF mE P f1 k1 Q f2 k2 G)))) H.size) s H := (hZx.kept hS.2.1).narrow hFc
  have hZc1 : nc_Z s := hZn
  refine vx_calli (vx_runSX (hh := h_Lw_count) (As := [.ref b0, .int x1, .ref out]) (rest := []) ⟨hx, hb, hml, hown, hts⟩ (c_Lw_count_g1 l hnt dC dI cJ cI cR H.size b0 bd0 pr0 t0 au0 da ka aa ba sa T h0 ro lo n g0 mF mE P f1 k1 Q f2 k2 G x1 out of hok hsh0 htn hkc hn hbc hsc hC) (vx_cwSW 3 hts (gw_Sv gk_817 gk_818 gk_0 gk_819) rfl rfl rfl (by decide +kernel) ⟨(Nat.le_of_ble_eq_true rfl), (Nat.le_of_ble_eq_true rfl)⟩) ⟨fun a U g mk q => by obtain ⟨q0, q1, qP, qK, qD, qZ0, qZ1⟩ := q; exact ⟨q0, q1, qP, va_K.moved (u := U) (U := U.calling g mk a) (Vm.Alike.refl U.vm) qK, qD, xz.same (u := U) (U := U.calling g mk a) rfl qZ0, nc_Z.moved (u := U) (U := U.calling g mk a) (Vm.Alike.refl U.vm) qZ1⟩, fun U hU hW => ⟨rfl, by rw [hU], by rw [hU]; exact hPc, va_K.moved hW.alike hKc, hDc.weaken (fun _ _ _ _ => trivial), by rw [hU]; exact xz.warm hW hZc0, nc_Z.moved hW.alike hZc1⟩⟩ rfl rfl hl.1 rfl (lv_room (Nat.le_of_ble_eq_true rfl)) d_law_1918 ⟨show cells + 8 ≤ 601024 by omega, show slots + 48 ≤ 7293034 by omega⟩) hS (fun q _ h => hFc q h) hFc (fun q _ h => hFc q h) (fun E9 ce9 q9 u8 t9 H1 locs ht hvm hpx hbx hz1 hk1 hS hce hcv hcl => hpx.elim) (fun r_8 u9 t9 H1 locs ht hvm hw hB hz1 hk1 hS => ?_)
  obtain ⟨hP1, hK1, hD1⟩ := hB
  rw [ht] at hP1
  obtain ⟨hP, hD⟩ := va_joinQ (X := (jw_ws out cJ 1 of ++ (bb_ws b0 bd0 pr0 t0 au0 da (.ref g0) ++ (rw_ws da cJ (r8 d0 d1 d2 d3 d4 d5 d6 d7) ++ (bd_ws bd0 h0 ro lo n cR (rrf rb) (rrf lb) ++ (pr_ws pr0 h0 cm cJ ccf ++ (ha_ws h0 aw ax ay cJ cI w csc cst cL ++ (tt_ws t0 ka aa ba sa (.ref g0) cJ T ++ (au_ws au0 bd0 pr0 tu0 sd ++ (tt_ws tu0 uka uaa uba usa gu cJ T0 ++ (gp_ws g0 mF mE P f1 k1 Q f2 k2 G ++ (mo_ws m0 e0 (nI (t_tn T)) (nI n) (nI (t_bc T)) (lN P) (lN Q) (lN G) (lN (ckey (t_tn T) (t_kc T) (t_kp T))) (lN (t_pa T)) (lN (t_pb T)) (t_sht T) a0 a1 a2 a3 a4 a5 a6 a7 a8 a9 mb0 mb1 oc mb2 mb3 mb4 mb5 ++ (iw_ws a7 cI 256 bf ++ (iw_ws a8 cI 64 sc ++ (iw_ws a9 cI 8 st ++ (iw_ws mb0 cI 8 kS ++ (iw_ws mb1 cI 64 kR ++ (jw_ws a2 cJ 4 tf ++ (jw_ws a0 cJ 1232 nf ++ (jw_ws a1 cJ 616 cf ++ (iw_ws a4 cI 4 kf ++ (jw_ws mb2 cJ 4 ky ++ (jw_ws a3 cJ 16 lf ++ (iw_ws a5 cI 4 sf ++ (iw_ws a6 cI 64 vf ++ (jw_ws mb3 cJ 128 md ++ (jw_ws mb4 cJ 4 sh ++ iw_ws mb5 cI 64 ct))))))))))))))))))))))))))) (cx := (jw_ws out cJ 1 of ++ (bb_ws b0 bd0 pr0 t0 au0 da (.ref g0) ++ (tt_ws t0 ka aa ba sa (.ref g0) cJ T ++ (bo_ws bd0 h0 ro lo n ++ gp_ws g0 mF mE P f1 k1 Q f2 k2 G))))) (wr := (rw_ws da cJ (r8 d0 d1 d2 d3 d4 d5 d6 d7) ++ ([(ro, .inl (cR, 154, .inr (.inr (.inr (.inr (rrf rb))))))] ++ ([(lo, .inl (cR, 154, .inr (.inr (.inr (.inr (rrf lb))))))] ++ (pr_ws pr0 h0 cm cJ ccf ++ (ha_ws h0 aw ax ay cJ cI w csc cst cL ++ (au_ws au0 bd0 pr0 tu0 sd ++ (tt_ws tu0 uka uaa uba usa gu cJ T0 ++ (mo_ws m0 e0 (nI (t_tn T)) (nI n) (nI (t_bc T)) (lN P) (lN Q) (lN G) (lN (ckey (t_tn T) (t_kc T) (t_kp T))) (lN (t_pa T)) (lN (t_pb T)) (t_sht T) a0 a1 a2 a3 a4 a5 a6 a7 a8 a9 mb0 mb1 oc mb2 mb3 mb4 mb5 ++ (iw_ws a7 cI 256 bf ++ (iw_ws a8 cI 64 sc ++ (iw_ws a9 cI 8 st ++ (iw_ws mb0 cI 8 kS ++ (iw_ws mb1 cI 64 kR ++ (jw_ws a2 cJ 4 tf ++ (jw_ws a0 cJ 1232 nf ++ (jw_ws a1 cJ 616 cf ++ (iw_ws a4 cI 4 kf ++ (jw_ws mb2 cJ 4 ky ++ (jw_ws a3 cJ 16 lf ++ (iw_ws a5 cI 4 sf ++ (iw_ws a6 cI 64 vf ++ (jw_ws mb3 cJ 128 md ++ (jw_ws mb4 cJ 4 sh ++ iw_ws mb5 cI 64 ct)))))))))))))))))))))))) (w1 := (jw_ws out cJ 1 of ++ (bb_ws b0 bd0 pr0 t0 au0 da (.ref g0) ++ (tt_ws t0 ka aa ba sa (.ref g0) cJ T ++ (bo_ws bd0 h0 ro lo n ++ gp_ws g0 mF mE P f1 k1 Q f2 k2 G))))) (pl := bpool rb lb cJ R Lk) hP hD [0, 1, 12, 13, 14, 15, 16, 3, 23, 24, 25] [2, 4, 5, 6, 7, 8, 9, 10, 11, 17, 18, 19, 20, 21, 22, 26, 27, 28, 29, 30, 31, 32, 33, 34, 35, 36, 37, 38, 39, 40, 41, 42] rfl rfl (by decide) (by decide) hk1 hFc hP1 hD1
  have hP := hP.part (cx := (jw_ws out cJ 1 of ++ (bb_ws b0 bd0 pr0 t0 au0 da (.ref g0) ++ (rw_ws da cJ (r8 d0 d1 d2 d3 d4 d5 d6 d7) ++ (bd_ws bd0 h0 ro lo n cR (rrf rb) (rrf lb) ++ (pr_ws pr0 h0 cm cJ ccf ++ (ha_ws h0 aw ax ay cJ cI w csc cst cL ++ (tt_ws t0 ka aa ba sa (.ref g0) cJ T ++ (au_ws au0 bd0 pr0 tu0 sd ++ (tt_ws tu0 uka uaa uba usa gu cJ T0 ++ (gp_ws g0 mF mE P f1 k1 Q f2 k2 G ++ (mo_ws m0 e0 (nI (t_tn T)) (nI n) (nI (t_bc T)) (lN P) (lN Q) (lN G) (lN (ckey (t_tn T) (t_kc T) (t_kp T))) (lN (t_pa T)) (lN (t_pb T)) (t_sht T) a0 a1 a2 a3 a4 a5 a6 a7 a8 a9 mb0 mb1 oc mb2 mb3 mb4 mb5 ++ (iw_ws a7 cI 256 bf ++ (iw_ws a8 cI 64 sc ++ (iw_ws a9 cI 8 st ++ (iw_ws mb0 cI 8 kS ++ (iw_ws mb1 cI 64 kR ++ (jw_ws a2 cJ 4 tf ++ (jw_ws a0 cJ 1232 nf ++ (jw_ws a1 cJ 616 cf ++ (iw_ws a4 cI 4 kf ++ (jw_ws mb2 cJ 4 ky ++ (jw_ws a3 cJ 16 lf ++ (iw_ws a5 cI 4 sf ++ (iw_ws a6 cI 64 vf ++ (jw_ws mb3 cJ 128 md ++ (jw_ws mb4 cJ 4 sh ++ iw_ws mb5 cI 64 ct))))))))))))))))))))))))))) [32, 33, 0, 39, 1, 2, 3, 4, 5, 6, 7, 8, 34, 35, 36, 37, 38, 9, 10, 11, 12, 13, 14, 40, 41, 42, 15, 16, 17, 18, 19, 20, 21, 22, 23, 24, 25, 26, 27, 28, 29, 30, 31] rfl
  have hD := hD.part (cx := (jw_ws out cJ 1 of ++ (bb_ws b0 bd0 pr0 t0 au0 da (.ref g0) ++ (rw_ws da cJ (r8 d0 d1 d2 d3 d4 d5 d6 d7) ++ (bd_ws bd0 h0 ro lo n cR (rrf rb) (rrf lb) ++ (pr_ws pr0 h0 cm cJ ccf ++ (ha_ws h0 aw ax ay cJ cI w csc cst cL ++ (tt_ws t0 ka aa ba sa (.ref g0) cJ T ++ (au_ws au0 bd0 pr0 tu0 sd ++ (tt_ws tu0 uka uaa uba usa gu cJ T0 ++ (gp_ws g0 mF mE P f1 k1 Q f2 k2 G ++ (mo_ws m0 e0 (nI (t_tn T)) (nI n) (nI (t_bc T)) (lN P) (lN Q) (lN G) (lN (ckey (t_tn T) (t_kc T) (t_kp T))) (lN (t_pa T)) (lN (t_pb T)) (t_sht T) a0 a1 a2 a3 a4 a5 a6 a7 a8 a9 mb0 mb1 oc mb2 mb3 mb4 mb5 ++ (iw_ws a7 cI 256 bf ++ (iw_ws a8 cI 64 sc ++ (iw_ws a9 cI 8 st ++ (iw_ws mb0 cI 8 kS ++ (iw_ws mb1 cI 64 kR ++ (jw_ws a2 cJ 4 tf ++ (jw_ws a0 cJ 1232 nf ++ (jw_ws a1 cJ 616 cf ++ (iw_ws a4 cI 4 kf ++ (jw_ws mb2 cJ 4 ky ++ (jw_ws a3 cJ 16 lf ++ (iw_ws a5 cI 4 sf ++ (iw_ws a6 cI 64 vf ++ (jw_ws mb3 cJ 128 md ++ (jw_ws mb4 cJ 4 sh ++ iw_ws mb5 cI 64 ct))))))))))))))))))))))))))) [32, 33, 0, 39, 1, 2, 3, 4, 5, 6, 7, 8, 34, 35, 36, 37, 38, 9, 10, 11, 12, 13, 14, 40, 41, 42, 15, 16, 17, 18, 19, 20, 21, 22, 23, 24, 25, 26, 27, 28, 29, 30, 31] (by decide) rfl
  generalize H1 = H at hP hS ⊢
  clear hPc hDc hFc hP1 hD1 hK1 ht hk1 hz1
  have hr9 : r_8 = 1 := hw
  subst hr9
  refine lv_istore (lv' := [(5, .int 1), (4, .int (nI i)), (3, .ref out), (2, .ref m0), (1, .ref b0), (0, .ref b)]) hx hb d_law_1921 hl (by decide) rfl (fun ls hl => ?_)
  refine lv_aload_n hx hb d_law_1923 rfl (lv_at hl 3 rfl) ?_
  refine lv_aload_n hx hb d_law_1924 rfl (lv_at hl 5 rfl) ?_
  refine lv_iload hx hb d_law_1925 (lv_at hl 1 rfl) ?_
  refine lv_iconst (v := 1) hx hb d_law_1927 (by decide) ?_
  refine lv_iadd hx hb d_law_1928 ?_
  rw [show ((nI i) + 1 : Int32) = nI (i + 1) from nI_add _ 1]
  refine va_sld hx hb hX hbl hbA hS (vp_in_nI (by omega) (by omega)) d_law_1929 ?_
  rw [show (xs (nI (i + 1)).toNatClampNeg : Int32) = xs (i + 1) from by rw [nI_clamp (by omega)]]
  rw [show (xs (i + 1) : Int32) = x1 from hx1.symm]
  have hPc := hP.sub (ws' := (mo_ws m0 e0 (nI (t_tn T)) (nI n) (nI (t_bc T)) (lN P) (lN Q) (lN G) (lN (ckey (t_tn T) (t_kc T) (t_kp T))) (lN (t_pa T)) (lN (t_pb T)) (t_sht T) a0 a1 a2 a3 a4 a5 a6 a7 a8 a9 mb0 mb1 oc mb2 mb3 mb4 mb5 ++ (iw_ws a4 cI 4 kf ++ iw_ws a5 cI 4 sf))) [26, 35, 38] rfl
  have hDc := hD.sub (ws' := (mo_ws m0 e0 (nI (t_tn T)) (nI n) (nI (t_bc T)) (lN P) (lN Q) (lN G) (lN (ckey (t_tn T) (t_kc T) (t_kp T))) (lN (t_pa T)) (lN (t_pb T)) (t_sht T) a0 a1 a2 a3 a4 a5 a6 a7 a8 a9 mb0 mb1 oc mb2 mb3 mb4 mb5 ++ (iw_ws a4 cI 4 kf ++ iw_ws a5 cI 4 sf))) [26, 35, 38] (by decide) rfl
  have hKc := hK.sub (tys' := [(cJ, .long), (cI, .int)]) [0, 1] rfl
  have hFc := va_free (wc := (mo_ws m0 e0 (nI (t_tn T)) (nI n) (nI (t_bc T)) (lN P) (lN Q) (lN G) (lN (ckey (t_tn T) (t_kc T) (t_kp T))) (lN (t_pa T)) (lN (t_pb T)) (t_sht T) a0 a1 a2 a3 a4 a5 a6 a7 a8 a9 mb0 mb1 oc mb2 mb3 mb4 mb5 ++ (iw_ws a4 cI 4 kf ++ iw_ws a5 cI 4 sf))) hD hS hA [26, 35, 38] rfl
  refine va_calll (va_runV (As := [.int x1]) (rest := []) ⟨hx, hb, hml, hown, hts⟩ (c_Bm_count_1 l dC dI cJ cI H.size m0 e0 (t_tn T) n (t_bc T) P Q G (ckey (t_tn T) (t_kc T) (t_kp T)) (t_pa T) (t_pb T) (t_sht T) a0 a1 a2 a3 a4 a5 a6 a7 a8 a9 mb0 mb1 oc mb2 mb3 mb4 mb5 kf sf (t_ko T) (t_so T) ky sh x1 htn hn hsh0 hbc hrk hrs hC) (cwV 1 hts (gw_V gk_1198 gk_1199 gk_1200 gk_7 gk_1201) rfl rfl rfl (by decide +kernel) ⟨(Nat.le_of_ble_eq_true rfl), (Nat.le_of_ble_eq_true rfl)⟩) ⟨fun a U g mk q => by obtain ⟨q0, q1, qP, qK, qD⟩ := q; exact ⟨q0, q1, qP, va_K.moved (u := U) (U := U.calling g mk a) (Vm.Alike.refl U.vm) qK, qD⟩, va_recv hK hP (ci := 8) (q0 := 26) rfl rfl, fun U hU hW => ⟨rfl, by rw [hU], by rw [hU]; exact hPc, va_K.moved hW.alike hKc, hDc.weaken (fun _ _ _ _ => trivial)⟩⟩ rfl rfl hl.1 rfl (lv_room (Nat.le_of_ble_eq_true rfl)) d_law_1930 ⟨show cells + 8 + 0 ≤ 601024 by omega, show slots + 48 + 0 ≤ 7293034 by omega⟩) hS (fun q _ h => hFc q h) hFc (fun r_9 v9 t9 H1 locs ht hvm hw hB hz1 hk1 hS => ?_)
  obtain ⟨hP1, hK1, hD1⟩ := hB
  rw [ht] at hP1
  obtain ⟨hP, hD⟩ := va_joinQ (X := (jw_ws out cJ 1 of ++ (bb_ws b0 bd0 pr0 t0 au0 da (.ref g0) ++ (rw_ws da cJ (r8 d0 d1 d2 d3 d4 d5 d6 d7) ++ (bd_ws bd0 h0 ro lo n cR (rrf rb) (rrf lb) ++ (pr_ws pr0 h0 cm cJ ccf ++ (ha_ws h0 aw ax ay cJ cI w csc cst cL ++ (tt_ws t0 ka aa ba sa (.ref g0) cJ T ++ (au_ws au0 bd0 pr0 tu0 sd ++ (tt_ws tu0 uka uaa uba usa gu cJ T0 ++ (gp_ws g0 mF mE P f1 k1 Q f2 k2 G ++ (mo_ws m0 e0 (nI (t_tn T)) (nI n) (nI (t_bc T)) (lN P) (lN Q) (lN G) (lN (ckey (t_tn T) (t_kc T) (t_kp T))) (lN (t_pa T)) (lN (t_pb T)) (t_sht T) a0 a1 a2 a3 a4 a5 a6 a7 a8 a9 mb0 mb1 oc mb2 mb3 mb4 mb5 ++ (iw_ws a7 cI 256 bf ++ (iw_ws a8 cI 64 sc ++ (iw_ws a9 cI 8 st ++ (iw_ws mb0 cI 8 kS ++ (iw_ws mb1 cI 64 kR ++ (jw_ws a2 cJ 4 tf ++ (jw_ws a0 cJ 1232 nf ++ (jw_ws a1 cJ 616 cf ++ (iw_ws a4 cI 4 kf ++ (jw_ws mb2 cJ 4 ky ++ (jw_ws a3 cJ 16 lf ++ (iw_ws a5 cI 4 sf ++ (iw_ws a6 cI 64 vf ++ (jw_ws mb3 cJ 128 md ++ (jw_ws mb4 cJ 4 sh ++ iw_ws mb5 cI 64 ct))))))))))))))))))))))))))) (cx := (mo_ws m0 e0 (nI (t_tn T)) (nI n) (nI (t_bc T)) (lN P) (lN Q) (lN G) (lN (ckey (t_tn T) (t_kc T) (t_kp T))) (lN (t_pa T)) (lN (t_pb T)) (t_sht T) a0 a1 a2 a3 a4 a5 a6 a7 a8 a9 mb0 mb1 oc mb2 mb3 mb4 mb5 ++ (iw_ws a4 cI 4 kf ++ iw_ws a5 cI 4 sf))) (wr := (jw_ws out cJ 1 of ++ (bb_ws b0 bd0 pr0 t0 au0 da (.ref g0) ++ (rw_ws da cJ (r8 d0 d1 d2 d3 d4 d5 d6 d7) ++ (bd_ws bd0 h0 ro lo n cR (rrf rb) (rrf lb) ++ (pr_ws pr0 h0 cm cJ ccf ++ (ha_ws h0 aw ax ay cJ cI w csc cst cL ++ (tt_ws t0 ka aa ba sa (.ref g0) cJ T ++ (au_ws au0 bd0 pr0 tu0 sd ++ (tt_ws tu0 uka uaa uba usa gu cJ T0 ++ (gp_ws g0 mF mE P f1 k1 Q f2 k2 G ++ (iw_ws a7 cI 256 bf ++ (iw_ws a8 cI 64 sc ++ (iw_ws a9 cI 8 st ++ (iw_ws mb0 cI 8 kS ++ (iw_ws mb1 cI 64 kR ++ (jw_ws a2 cJ 4 tf ++ (jw_ws a0 cJ 1232 nf ++ (jw_ws a1 cJ 616 cf ++ (jw_ws mb2 cJ 4 ky ++ (jw_ws a3 cJ 16 lf ++ (iw_ws a6 cI 64 vf ++ (jw_ws mb3 cJ 128 md ++ (jw_ws mb4 cJ 4 sh ++ iw_ws mb5 cI 64 ct)))))))))))))))))))))))) (w1 := (mo_ws m0 1 (nI (t_tn T)) (nI n) (nI (t_bc T)) (lN P) (lN Q) (lN G) (lN (ckey (t_tn T) (t_kc T) (t_kp T))) (lN (t_pa T)) (lN (t_pb T)) (t_sht T) a0 a1 a2 a3 a4 a5 a6 a7 a8 a9 mb0 mb1 oc mb2 mb3 mb4 mb5 ++ (iw_ws a4 cI 4 kf ++ iw_ws a5 cI 4 sf))) (pl := bpool rb lb cJ R Lk) hP hD [26, 35, 38] [0, 1, 2, 3, 4, 5, 6, 7, 8, 9, 10, 11, 12, 13, 14, 15, 16, 17, 18, 19, 20, 21, 22, 23, 24, 25, 27, 28, 29, 30, 31, 32, 33, 34, 36, 37, 39, 40, 41, 42] rfl rfl (by decide) (by decide) hk1 hFc hP1 hD1
  have hP := hP.part (cx := (jw_ws out cJ 1 of ++ (bb_ws b0 bd0 pr0 t0 au0 da (.ref g0) ++ (rw_ws da cJ (r8 d0 d1 d2 d3 d4 d5 d6 d7) ++ (bd_ws bd0 h0 ro lo n cR (rrf rb) (rrf lb) ++ (pr_ws pr0 h0 cm cJ ccf ++ (ha_ws h0 aw ax ay cJ cI w csc cst cL ++ (tt_ws t0 ka aa ba sa (.ref g0) cJ T ++ (au_ws au0 bd0 pr0 tu0 sd ++ (tt_ws tu0 uka uaa uba usa gu cJ T0 ++ (gp_ws g0 mF mE P f1 k1 Q f2 k2 G ++ (mo_ws m0 1 (nI (t_tn T)) (nI n) (nI (t_bc T)) (lN P) (lN Q) (lN G) (lN (ckey (t_tn T) (t_kc T) (t_kp T))) (lN (t_pa T)) (lN (t_pb T)) (t_sht T) a0 a1 a2 a3 a4 a5 a6 a7 a8 a9 mb0 mb1 oc mb2 mb3 mb4 mb5 ++ (iw_ws a7 cI 256 bf ++ (iw_ws a8 cI 64 sc ++ (iw_ws a9 cI 8 st ++ (iw_ws mb0 cI 8 kS ++ (iw_ws mb1 cI 64 kR ++ (jw_ws a2 cJ 4 tf ++ (jw_ws a0 cJ 1232 nf ++ (jw_ws a1 cJ 616 cf ++ (iw_ws a4 cI 4 kf ++ (jw_ws mb2 cJ 4 ky ++ (jw_ws a3 cJ 16 lf ++ (iw_ws a5 cI 4 sf ++ (iw_ws a6 cI 64 vf ++ (jw_ws mb3 cJ 128 md ++ (jw_ws mb4 cJ 4 sh ++ iw_ws mb5 cI 64 ct))))))))))))))))))))))))))) [0, 1, 2, 3, 4, 5, 6, 7, 8, 9, 10, 11, 12, 13, 14, 15, 16, 17, 18, 19, 20, 21, 22, 23, 24, 25, 40, 26, 27, 28, 29, 30, 31, 32, 33, 41, 34, 35, 42, 36, 37, 38, 39] rfl
  have hD := hD.part (cx := (jw_ws out cJ 1 of ++ (bb_ws b0 bd0 pr0 t0 au0 da (.ref g0) ++ (rw_ws da cJ (r8 d0 d1 d2 d3 d4 d5 d6 d7) ++ (bd_ws bd0 h0 ro lo n cR (rrf rb) (rrf lb) ++ (pr_ws pr0 h0 cm cJ ccf ++ (ha_ws h0 aw ax ay cJ cI w csc cst cL ++ (tt_ws t0 ka aa ba sa (.ref g0) cJ T ++ (au_ws au0 bd0 pr0 tu0 sd ++ (tt_ws tu0 uka uaa uba usa gu cJ T0 ++ (gp_ws g0 mF mE P f1 k1 Q f2 k2 G ++ (mo_ws m0 1 (nI (t_tn T)) (nI n) (nI (t_bc T)) (lN P) (lN Q) (lN G) (lN (ckey (t_tn T) (t_kc T) (t_kp T))) (lN (t_pa T)) (lN (t_pb T)) (t_sht T) a0 a1 a2 a3 a4 a5 a6 a7 a8 a9 mb0 mb1 oc mb2 mb3 mb4 mb5 ++ (iw_ws a7 cI 256 bf ++ (iw_ws a8 cI 64 sc ++ (iw_ws a9 cI 8 st ++ (iw_ws mb0 cI 8 kS ++ (iw_ws mb1 cI 64 kR ++ (jw_ws a2 cJ 4 tf ++ (jw_ws a0 cJ 1232 nf ++ (jw_ws a1 cJ 616 cf ++ (iw_ws a4 cI 4 kf ++ (jw_ws mb2 cJ 4 ky ++ (jw_ws a3 cJ 16 lf ++ (iw_ws a5 cI 4 sf ++ (iw_ws a6 cI 64 vf ++ (jw_ws mb3 cJ 128 md ++ (jw_ws mb4 cJ 4 sh ++ iw_ws mb5 cI 64 ct))))))))))))))))))))))))))) [0, 1, 2, 3, 4, 5, 6, 7, 8, 9, 10, 11, 12, 13, 14, 15, 16, 17, 18, 19, 20, 21, 22, 23, 24, 25, 40, 26, 27, 28, 29, 30, 31, 32, 33, 41, 34, 35, 42, 36, 37, 38, 39] (by decide) rfl
  generalize H1 = H at hP hS ⊢
  clear hPc hDc hFc hP1 hD1 hK1 ht hk1 hz1
  refine lv_lstore (lv' := [(6, .long r_9), (5, .int 1), (4, .int (nI i)), (3, .ref out), (2, .ref m0), (1, .ref b0), (0, .ref b)]) hx hb d_law_1933 hl (by decide) rfl (fun ls hl => ?_)
  refine lv_aload_n hx hb d_law_1935 rfl (lv_at hl 4 rfl) ?_
  have hPc := hP.sub (ws' := (mo_ws m0 1 (nI (t_tn T)) (nI n) (nI (t_bc T)) (lN P) (lN Q) (lN G) (lN (ckey (t_tn T) (t_kc T) (t_kp T))) (lN (t_pa T)) (lN (t_pb T)) (t_sht T) a0 a1 a2 a3 a4 a5 a6 a7 a8 a9 mb0 mb1 oc mb2 mb3 mb4 mb5)) [26] rfl
  have hKc := hK.sub (tys' := [(cJ, .long), (cI, .int)]) [0, 1] rfl
  refine va_calli (va_runV (As := []) (rest := []) ⟨hx, hb, hml, hown, hts⟩ (c_Bm_thrown l H dC dI cJ cI m0 1 (nI (t_tn T)) (nI n) (nI (t_bc T)) (lN P) (lN Q) (lN G) (lN (ckey (t_tn T) (t_kc T) (t_kp T))) (lN (t_pa T)) (lN (t_pb T)) (t_sht T) a0 a1 a2 a3 a4 a5 a6 a7 a8 a9 mb0 mb1 oc mb2 mb3 mb4 mb5 hPc) (cwV 0 hts (gw_V gk_1004 gk_1005 gk_1006 gk_7 gk_1007) rfl rfl rfl (by decide +kernel) ⟨(Nat.le_of_ble_eq_true rfl), (Nat.le_of_ble_eq_true rfl)⟩) ⟨fun a U g mk q => ⟨q.1, q.2.1, va_K.moved (u := U) (U := U.calling g mk a) (Vm.Alike.refl U.vm) q.2.2⟩, va_recv hK hP (ci := 8) (q0 := 26) rfl rfl, fun U hU hW => ⟨rfl, hU, va_K.moved hW.alike hKc⟩⟩ rfl rfl hl.1 rfl (lv_room (Nat.le_of_ble_eq_true rfl)) d_law_1936 ⟨show cells + 8 + 0 + 0 ≤ 601024 by omega, show slots + 48 + 0 + 0 ≤ 7293034 by omega⟩) hS (fun q _ h => h.elim) (fun q h => h.elim) (fun r_10 w9 t9 H1 locs ht hvm hw9 hB hz1 hk1 hS => ?_)
  obtain rfl : H = H1 := hB.symm.trans ht
  have hw9 : r_10 = 1 := hw9
  subst hw9
  clear hPc hz1 hk1 hB
  refine lv_iload hx hb d_law_1939 (lv_at hl 1 rfl) ?_
  refine lv_icmp_eq (tgt := 1946) hx hb d_law_1941 (by decide) (fun c_11 => ?_) (fun c_11 => ?_)
  · -- taken
    refine lv_iload hx hb d_law_1946 (lv_at hl 1 rfl) ?_
    refine lv_if_ne (tgt := 1962) hx hb d_law_1948 (by decide) (fun c_12 => ?_) (fun c_12 => ?_)
    · -- taken
      refine lv_goto (tgt := 1965) hx hb d_law_1962 (by decide) ?_
      refine W.widen (k := cells + 20) (n := slots + 200) (by omega) (by omega) ?_
      have hI9 : LI dC dI cJ cI cR A out b0 m0 H := LG.mk hP hD hR
      exact cont _ _ _ hS hI9 (lv_sub hl [2, 3, 4, 5, 6] rfl)
    · -- not taken
      exact absurd c_12 (by decide)
  · -- not taken
    exact absurd c_11 (by decide)
