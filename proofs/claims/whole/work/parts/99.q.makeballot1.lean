set_option maxHeartbeats 16000000 in
set_option maxRecDepth 100000 in
theorem bk_makeBallot_g1 {p : Program} {l : Launch} {e : Env} {s : State} {m : MethodId} {below : List Frame} {meth : Method} {c : Code} {b L : Nat} {xs : Nat → Int32} {dC : Nat → ClassId} {dI : Nat → Nat → Nat} {cJ cI cR : ClassId} {A : Nat → Prop} {out b0 m0 : Nat} {rA sA wA : Nat} (C : LC p l s m meth c b L xs dC dI cJ cI cR A rA sA wA) {i cells slots : Nat} (hi : i + 14 ≤ L) (hx0 : ¬ xs (i + 2) = 0) (hcs : cells + 20 ≤ 601024 ∧ slots + 200 ≤ 7293034) (cont : LK p l e s m below meth c b dC dI cJ cI cR A out b0 m0 i (cells + 20) (slots + 200) 1965) {H : Heap} {locs : List Loc} {ls : Array Slot} (hS : va_S A s.heap H locs) (hI : LG dC dI cJ cI cR A out b0 m0 H) (hl : lv_has ls 8 [(4, .int (nI i)), (3, .ref out), (2, .ref m0), (1, .ref b0), (0, .ref b)]) : W p l e room_1 s m #[Value.ref b] below meth c H locs cells slots (lw_Z below #[Value.ref b] s) (F0 m 927 ls []) := by
  obtain ⟨hnt, ⟨hx, hb, hr, hml, hown, hts0, hX, hbl, hlocks, hgv⟩, hK, hA, hbA, hZha, hZx, hZn, hZw, hL⟩ := C
  have hown : s.vm.findClass "BallotBoardLaw" = some m.cls := hown
  have hts := lw_hts hts0
  refine hI _ (fun bd0 pr0 t0 au0 da h0 ro lo rb lb cm aw ax ay ka aa ba sa tu0 uka uaa uba usa a0 a1 a2 a3 a4 a5 a6 a7 a8 a9 mb0 mb1 oc mb2 mb3 mb4 mb5 cL of w tf nf cf ky lf md sh ccf csc cst bf sc st kf sf vf ct gu d0 d1 d2 d3 d4 d5 d6 d7 e0 R Lk g0 mF mE P f1 k1 Q f2 k2 G N n sd bc al pa pb cl T T0 kd wh hP hD hR => ?_)
  have q1 := hR.1.2.2.2.1.1
  subst q1
  have q2 := hR.2.2.2.1.1
  subst q2
  have q3 := hR.2.2.2.1.2.1
  subst q3
  have q4 := hR.2.2.2.1.2.2.1
  subst q4
  have q5 := hR.2.2.2.1.2.2.2.1
  subst q5
  have q6 := hR.2.2.2.1.2.2.2.2.1
  subst q6
  obtain ⟨⟨hok, htok, hN0, htn, hkc, hn⟩, ⟨hnO, hnS, hn0S, hn0B, hbc, hsc, hsh0⟩, ⟨hgr, hrk, hrs, hrb, hko, hkP⟩, ⟨hal, hclN, hky, hpa, hmd, haP, hbP⟩, ⟨hsP, hsp, hpb, hwf, hEI, hnfR, hcfR, hkf⟩, ⟨hnfk, hkq, hsd, hsn, hsdd, h0k, hkca⟩, ⟨hPQ, h61F, hQ3, hG2, hGP, hGQ⟩, hTt, hTt0, hRT⟩ := LG_facts hR
  obtain ⟨x1, hx1⟩ : ∃ v, v = xs (i + 1) := ⟨_, rfl⟩
  obtain ⟨x2, hx2⟩ : ∃ v, v = xs (i + 2) := ⟨_, rfl⟩
  obtain ⟨x3, hx3⟩ : ∃ v, v = jl (xs (i + 3)) (xs (i + 4)) := ⟨_, rfl⟩
  obtain ⟨x4, hx4⟩ : ∃ v, v = jl (xs (i + 5)) (xs (i + 6)) := ⟨_, rfl⟩
  obtain ⟨x5, hx5⟩ : ∃ v, v = jl (xs (i + 7)) (xs (i + 8)) := ⟨_, rfl⟩
  obtain ⟨x6, hx6⟩ : ∃ v, v = jl (xs (i + 9)) (xs (i + 10)) := ⟨_, rfl⟩
  by_cases hC1 : bC1 T
  · -- it holds
    refine lv_aload_n hx hb d_law_927 rfl (lv_at hl 3 rfl) ?_
    refine lv_aload_n hx hb d_law_928 rfl (lv_at hl 4 rfl) ?_
    refine lv_iload hx hb d_law_929 (lv_at hl 0 rfl) ?_
    refine lv_iconst (v := 1) hx hb d_law_931 (by decide) ?_
    refine lv_iadd hx hb d_law_932 ?_
    rw [show ((nI i) + 1 : Int32) = nI (i + 1) from nI_add _ 1]
    refine va_sld hx hb hX hbl hbA hS (vp_in_nI (by omega) (by omega)) d_law_933 ?_
    rw [show (xs (nI (i + 1)).toNatClampNeg : Int32) = xs (i + 1) from by rw [nI_clamp (by omega)]]
    rw [show (xs (i + 1) : Int32) = x1 from hx1.symm]
    refine lv_aload_n hx hb d_law_934 rfl (lv_at hl 4 rfl) ?_
    refine lv_iload hx hb d_law_935 (lv_at hl 0 rfl) ?_
    refine lv_iconst (v := 2) hx hb d_law_937 (by decide) ?_
    refine lv_iadd hx hb d_law_938 ?_
    rw [show ((nI i) + 2 : Int32) = nI (i + 2) from nI_add _ 2]
    refine va_sld hx hb hX hbl hbA hS (vp_in_nI (by omega) (by omega)) d_law_939 ?_
    rw [show (xs (nI (i + 2)).toNatClampNeg : Int32) = xs (i + 2) from by rw [nI_clamp (by omega)]]
    rw [show (xs (i + 2) : Int32) = x2 from hx2.symm]
    refine lv_if_eq (tgt := 947) hx hb d_law_940 (by decide) (fun c_1 => ?_) (fun c_1 => ?_)
    · -- taken
      exact absurd c_1 (by rw [hx2]; exact hx0)
    · -- not taken
      refine lv_iconst (v := 1) hx hb d_law_943 (by decide) ?_
      refine lv_goto (tgt := 948) hx hb d_law_944 (by decide) ?_
      refine lv_aload_n hx hb d_law_948 rfl (lv_at hl 4 rfl) ?_
      refine lv_iload hx hb d_law_949 (lv_at hl 0 rfl) ?_
      refine lv_iconst (v := 3) hx hb d_law_951 (by decide) ?_
      refine lv_iadd hx hb d_law_952 ?_
      rw [show ((nI i) + 3 : Int32) = nI (i + 3) from nI_add _ 3]
      refine va_sld hx hb hX hbl hbA hS (vp_in_nI (by omega) (by omega)) d_law_953 ?_
      rw [show (xs (nI (i + 3)).toNatClampNeg : Int32) = xs (i + 3) from by rw [nI_clamp (by omega)]]
      refine lv_i2l (v := (xs (i + 3) : Int32).toInt64) hx hb d_law_954 rfl ?_
      refine lv_bipush (v := 32) hx hb d_law_955 (by decide) ?_
      refine lv_lshl (v := ((xs (i + 3) : Int32).toInt64 : Int64) <<< ((32 : Int32).toInt64 &&& 63)) hx hb d_law_957 rfl ?_
      refine lv_aload_n hx hb d_law_958 rfl (lv_at hl 4 rfl) ?_
      refine lv_iload hx hb d_law_959 (lv_at hl 0 rfl) ?_
      refine lv_iconst (v := 4) hx hb d_law_961 (by decide) ?_
      refine lv_iadd hx hb d_law_962 ?_
      rw [show ((nI i) + 4 : Int32) = nI (i + 4) from nI_add _ 4]
      refine va_sld hx hb hX hbl hbA hS (vp_in_nI (by omega) (by omega)) d_law_963 ?_
      rw [show (xs (nI (i + 4)).toNatClampNeg : Int32) = xs (i + 4) from by rw [nI_clamp (by omega)]]
      refine lv_i2l (v := (xs (i + 4) : Int32).toInt64) hx hb d_law_964 rfl ?_
      refine lv_ldc2 (v := 4294967295) hx hb hown (hts _ (List.mem_cons_of_mem _ gk_1202)) d_law_965 ?_
      refine lv_land hx hb d_law_968 ?_
      refine lv_lor hx hb d_law_969 ?_
      rw [show ((((xs (i + 3) : Int32).toInt64 : Int64) <<< ((32 : Int32).toInt64 &&& 63)) ||| (((xs (i + 4) : Int32).toInt64) &&& 4294967295) : Int64) = x3 from hx3.symm]
      refine lv_aload_n hx hb d_law_970 rfl (lv_at hl 4 rfl) ?_
      refine lv_iload hx hb d_law_971 (lv_at hl 0 rfl) ?_
      refine lv_iconst (v := 5) hx hb d_law_973 (by decide) ?_
      refine lv_iadd hx hb d_law_974 ?_
      rw [show ((nI i) + 5 : Int32) = nI (i + 5) from nI_add _ 5]
      refine va_sld hx hb hX hbl hbA hS (vp_in_nI (by omega) (by omega)) d_law_975 ?_
      rw [show (xs (nI (i + 5)).toNatClampNeg : Int32) = xs (i + 5) from by rw [nI_clamp (by omega)]]
      refine lv_i2l (v := (xs (i + 5) : Int32).toInt64) hx hb d_law_976 rfl ?_
      refine lv_bipush (v := 32) hx hb d_law_977 (by decide) ?_
      refine lv_lshl (v := ((xs (i + 5) : Int32).toInt64 : Int64) <<< ((32 : Int32).toInt64 &&& 63)) hx hb d_law_979 rfl ?_
      refine lv_aload_n hx hb d_law_980 rfl (lv_at hl 4 rfl) ?_
      refine lv_iload hx hb d_law_981 (lv_at hl 0 rfl) ?_
      refine lv_bipush (v := 6) hx hb d_law_983 (by decide) ?_
      refine lv_iadd hx hb d_law_985 ?_
      rw [show ((nI i) + 6 : Int32) = nI (i + 6) from nI_add _ 6]
      refine va_sld hx hb hX hbl hbA hS (vp_in_nI (by omega) (by omega)) d_law_986 ?_
      rw [show (xs (nI (i + 6)).toNatClampNeg : Int32) = xs (i + 6) from by rw [nI_clamp (by omega)]]
      refine lv_i2l (v := (xs (i + 6) : Int32).toInt64) hx hb d_law_987 rfl ?_
      refine lv_ldc2 (v := 4294967295) hx hb hown (hts _ (List.mem_cons_of_mem _ gk_1202)) d_law_988 ?_
      refine lv_land hx hb d_law_991 ?_
      refine lv_lor hx hb d_law_992 ?_
      rw [show ((((xs (i + 5) : Int32).toInt64 : Int64) <<< ((32 : Int32).toInt64 &&& 63)) ||| (((xs (i + 6) : Int32).toInt64) &&& 4294967295) : Int64) = x4 from hx4.symm]
      refine lv_aload_n hx hb d_law_993 rfl (lv_at hl 4 rfl) ?_
      refine lv_iload hx hb d_law_994 (lv_at hl 0 rfl) ?_
      refine lv_bipush (v := 7) hx hb d_law_996 (by decide) ?_
      refine lv_iadd hx hb d_law_998 ?_
      rw [show ((nI i) + 7 : Int32) = nI (i + 7) from nI_add _ 7]
      refine va_sld hx hb hX hbl hbA hS (vp_in_nI (by omega) (by omega)) d_law_999 ?_
      rw [show (xs (nI (i + 7)).toNatClampNeg : Int32) = xs (i + 7) from by rw [nI_clamp (by omega)]]
      refine lv_i2l (v := (xs (i + 7) : Int32).toInt64) hx hb d_law_1000 rfl ?_
      refine lv_bipush (v := 32) hx hb d_law_1001 (by decide) ?_
      refine lv_lshl (v := ((xs (i + 7) : Int32).toInt64 : Int64) <<< ((32 : Int32).toInt64 &&& 63)) hx hb d_law_1003 rfl ?_
      refine lv_aload_n hx hb d_law_1004 rfl (lv_at hl 4 rfl) ?_
      refine lv_iload hx hb d_law_1005 (lv_at hl 0 rfl) ?_
      refine lv_bipush (v := 8) hx hb d_law_1007 (by decide) ?_
      refine lv_iadd hx hb d_law_1009 ?_
      rw [show ((nI i) + 8 : Int32) = nI (i + 8) from nI_add _ 8]
      refine va_sld hx hb hX hbl hbA hS (vp_in_nI (by omega) (by omega)) d_law_1010 ?_
      rw [show (xs (nI (i + 8)).toNatClampNeg : Int32) = xs (i + 8) from by rw [nI_clamp (by omega)]]
      refine lv_i2l (v := (xs (i + 8) : Int32).toInt64) hx hb d_law_1011 rfl ?_
      refine lv_ldc2 (v := 4294967295) hx hb hown (hts _ (List.mem_cons_of_mem _ gk_1202)) d_law_1012 ?_
      refine lv_land hx hb d_law_1015 ?_
      refine lv_lor hx hb d_law_1016 ?_
      rw [show ((((xs (i + 7) : Int32).toInt64 : Int64) <<< ((32 : Int32).toInt64 &&& 63)) ||| (((xs (i + 8) : Int32).toInt64) &&& 4294967295) : Int64) = x5 from hx5.symm]
      refine lv_aload_n hx hb d_law_1017 rfl (lv_at hl 4 rfl) ?_
      refine lv_iload hx hb d_law_1018 (lv_at hl 0 rfl) ?_
      refine lv_bipush (v := 9) hx hb d_law_1020 (by decide) ?_
      refine lv_iadd hx hb d_law_1022 ?_
      rw [show ((nI i) + 9 : Int32) = nI (i + 9) from nI_add _ 9]
      refine va_sld hx hb hX hbl hbA hS (vp_in_nI (by omega) (by omega)) d_law_1023 ?_
      rw [show (xs (nI (i + 9)).toNatClampNeg : Int32) = xs (i + 9) from by rw [nI_clamp (by omega)]]
      refine lv_i2l (v := (xs (i + 9) : Int32).toInt64) hx hb d_law_1024 rfl ?_
      refine lv_bipush (v := 32) hx hb d_law_1025 (by decide) ?_
      refine lv_lshl (v := ((xs (i + 9) : Int32).toInt64 : Int64) <<< ((32 : Int32).toInt64 &&& 63)) hx hb d_law_1027 rfl ?_
      refine lv_aload_n hx hb d_law_1028 rfl (lv_at hl 4 rfl) ?_
      refine lv_iload hx hb d_law_1029 (lv_at hl 0 rfl) ?_
      refine lv_bipush (v := 10) hx hb d_law_1031 (by decide) ?_
      refine lv_iadd hx hb d_law_1033 ?_
      rw [show ((nI i) + 10 : Int32) = nI (i + 10) from nI_add _ 10]
      refine va_sld hx hb hX hbl hbA hS (vp_in_nI (by omega) (by omega)) d_law_1034 ?_
      rw [show (xs (nI (i + 10)).toNatClampNeg : Int32) = xs (i + 10) from by rw [nI_clamp (by omega)]]
      refine lv_i2l (v := (xs (i + 10) : Int32).toInt64) hx hb d_law_1035 rfl ?_
      refine lv_ldc2 (v := 4294967295) hx hb hown (hts _ (List.mem_cons_of_mem _ gk_1202)) d_law_1036 ?_
      refine lv_land hx hb d_law_1039 ?_
      refine lv_lor hx hb d_law_1040 ?_
      rw [show ((((xs (i + 9) : Int32).toInt64 : Int64) <<< ((32 : Int32).toInt64 &&& 63)) ||| (((xs (i + 10) : Int32).toInt64) &&& 4294967295) : Int64) = x6 from hx6.symm]
      refine lv_aload_n hx hb d_law_1041 rfl (lv_at hl 1 rfl) ?_
      have hPc := hP.part (cx := (jw_ws out cJ 1 of ++ (bb_ws b0 bd0 pr0 t0 au0 da (.ref g0) ++ (rw_ws da cJ (r8 d0 d1 d2 d3 d4 d5 d6 d7) ++ (bd_ws bd0 h0 ro lo n cR (rrf rb) (rrf lb) ++ (pr_ws pr0 h0 cm cJ ccf ++ (ha_ws h0 aw ax ay cJ cI w csc cst cL ++ (tt_ws t0 ka aa ba sa (.ref g0) cJ T ++ gp_ws g0 mF mE P f1 k1 Q f2 k2 G)))))))) [0, 1, 2, 3, 4, 5, 6, 7, 8, 9, 10, 11, 12, 13, 14, 15, 16, 23, 24, 25] rfl
      have hDc := hD.part (cx := (jw_ws out cJ 1 of ++ (bb_ws b0 bd0 pr0 t0 au0 da (.ref g0) ++ (rw_ws da cJ (r8 d0 d1 d2 d3 d4 d5 d6 d7) ++ (bd_ws bd0 h0 ro lo n cR (rrf rb) (rrf lb) ++ (pr_ws pr0 h0 cm cJ ccf ++ (ha_ws h0 aw ax ay cJ cI w csc cst cL ++ (tt_ws t0 ka aa ba sa (.ref g0) cJ T ++ gp_ws g0 mF mE P f1 k1 Q f2 k2 G)))))))) [0, 1, 2, 3, 4, 5, 6, 7, 8, 9, 10, 11, 12, 13, 14, 15, 16, 23, 24, 25] (by decide) rfl
      have hKc := hK.sub (tys' := [(cJ, .long), (cI, .int), (cR, .array .long)]) [0, 1, 2] rfl
      have hFc := va_freeP (cx := (jw_ws out cJ 1 of ++ (bb_ws b0 bd0 pr0 t0 au0 da (.ref g0) ++ (rw_ws da cJ (r8 d0 d1 d2 d3 d4 d5 d6 d7) ++ (bd_ws bd0 h0 ro lo n cR (rrf rb) (rrf lb) ++ (pr_ws pr0 h0 cm cJ ccf ++ (ha_ws h0 aw ax ay cJ cI w csc cst cL ++ (tt_ws t0 ka aa ba sa (.ref g0) cJ T ++ gp_ws g0 mF mE P f1 k1 Q f2 k2 G)))))))) hD hS hA [0, 1, 2, 3, 4, 5, 6, 7, 8, 9, 10, 11, 12, 13, 14, 15, 16, 23, 24, 25] rfl
      have hZc0 : ha_Z rA sA (va_A ((jw_ws out cJ 1 of ++ (bb_ws b0 bd0 pr0 t0 au0 da (.ref g0) ++ (rw_ws da cJ (r8 d0 d1 d2 d3 d4 d5 d6 d7) ++ (bd_ws bd0 h0 ro lo n cR (rrf rb) (rrf lb) ++ (pr_ws pr0 h0 cm cJ ccf ++ (ha_ws h0 aw ax ay cJ cI w csc cst cL ++ (tt_ws t0 ka aa ba sa (.ref g0) cJ T ++ gp_ws g0 mF mE P f1 k1 Q f2 k2 G))))))) ++ bpool rb lb cJ R Lk) H.size) s H := (hZha.kept hS.2.1).narrow hFc
      have hZc1 : xz (va_A ((jw_ws out cJ 1 of ++ (bb_ws b0 bd0 pr0 t0 au0 da (.ref g0) ++ (rw_ws da cJ (r8 d0 d1 d2 d3 d4 d5 d6 d7) ++ (bd_ws bd0 h0 ro lo n cR (rrf rb) (rrf lb) ++ (pr_ws pr0 h0 cm cJ ccf ++ (ha_ws h0 aw ax ay cJ cI w csc cst cL ++ (tt_ws t0 ka aa ba sa (.ref g0) cJ T ++ gp_ws g0 mF mE P f1 k1 Q f2 k2 G))))))) ++ bpool rb lb cJ R Lk) H.size) s H := (hZx.kept hS.2.1).narrow hFc
      have hZc2 : nc_Z s := hZn
      refine vx_calli (vx_runSX (hh := h_Lw_makeBallot) (As := [.ref b0, .int x1, .int 1, .long x3, .long x4, .long x5, .long x6, .ref out]) (rest := []) ⟨hx, hb, hml, hown, hts⟩ (c_Lw_makeBallot_11 l hnt dC dI cJ cI cR H.size b0 bd0 pr0 t0 au0 da h0 ro lo n rb lb cm ccf aw ax ay w csc cst cL ka aa ba sa T g0 mF mE P f1 k1 Q f2 k2 G rA sA R Lk d0 d1 d2 d3 d4 d5 d6 d7 x1 1 x3 x4 x5 x6 out of hok htok hN0 htn hkc hn hn0B hkq (by decide) hC1) (vx_cwSW 8 hts (gw_Sv gk_667 gk_668 gk_0 gk_669) rfl rfl rfl (by decide +kernel) ⟨(Nat.le_of_ble_eq_true rfl), (Nat.le_of_ble_eq_true rfl)⟩) ⟨fun a U g mk q => by obtain ⟨q0, q1, qP, qK, qD, qZ0, qZ1, qZ2⟩ := q; exact ⟨q0, q1, qP, va_K.moved (u := U) (U := U.calling g mk a) (Vm.Alike.refl U.vm) qK, qD, ha_Z.moved (u := U) (U := U.calling g mk a) (Vm.Alike.refl U.vm) qZ0, xz.same (u := U) (U := U.calling g mk a) rfl qZ1, nc_Z.moved (u := U) (U := U.calling g mk a) (Vm.Alike.refl U.vm) qZ2⟩, fun U hU hW => ⟨rfl, by rw [hU], by rw [hU]; exact hPc, va_K.moved hW.alike hKc, hDc.weaken (fun _ _ _ _ => trivial), by rw [hU]; exact ha_Z.moved hW.alike hZc0, by rw [hU]; exact xz.warm hW hZc1, nc_Z.moved hW.alike hZc2⟩⟩ rfl rfl hl.1 rfl (lv_room (Nat.le_of_ble_eq_true rfl)) d_law_1042 ⟨show cells + 8 ≤ 601024 by omega, show slots + 48 ≤ 7293034 by omega⟩) hS (fun q _ h => hFc q h) hFc (fun q _ h => hFc q h) (fun E9 ce9 q9 u8 t9 H1 locs ht hvm hpx hbx hz1 hk1 hS hce hcv hcl => hpx.elim) (fun r_2 u9 t9 H1 locs ht hvm hw hB hz1 hk1 hS => ?_)
      obtain ⟨hP1, hK1, hD1⟩ := hB
      rw [ht] at hP1
      obtain ⟨hP, hD⟩ := va_joinP (X := (jw_ws out cJ 1 of ++ (bb_ws b0 bd0 pr0 t0 au0 da (.ref g0) ++ (rw_ws da cJ (r8 d0 d1 d2 d3 d4 d5 d6 d7) ++ (bd_ws bd0 h0 ro lo n cR (rrf rb) (rrf lb) ++ (pr_ws pr0 h0 cm cJ ccf ++ (ha_ws h0 aw ax ay cJ cI w csc cst cL ++ (tt_ws t0 ka aa ba sa (.ref g0) cJ T ++ (au_ws au0 bd0 pr0 tu0 sd ++ (tt_ws tu0 uka uaa uba usa gu cJ T0 ++ (gp_ws g0 mF mE P f1 k1 Q f2 k2 G ++ (mo_ws m0 e0 (nI (t_tn T)) (nI n) (nI (t_bc T)) (lN P) (lN Q) (lN G) (lN (ckey (t_tn T) (t_kc T) (t_kp T))) (lN (t_pa T)) (lN (t_pb T)) (t_sht T) a0 a1 a2 a3 a4 a5 a6 a7 a8 a9 mb0 mb1 oc mb2 mb3 mb4 mb5 ++ (iw_ws a7 cI 256 bf ++ (iw_ws a8 cI 64 sc ++ (iw_ws a9 cI 8 st ++ (iw_ws mb0 cI 8 kS ++ (iw_ws mb1 cI 64 kR ++ (jw_ws a2 cJ 4 tf ++ (jw_ws a0 cJ 1232 nf ++ (jw_ws a1 cJ 616 cf ++ (iw_ws a4 cI 4 kf ++ (jw_ws mb2 cJ 4 ky ++ (jw_ws a3 cJ 16 lf ++ (iw_ws a5 cI 4 sf ++ (iw_ws a6 cI 64 vf ++ (jw_ws mb3 cJ 128 md ++ (jw_ws mb4 cJ 4 sh ++ iw_ws mb5 cI 64 ct))))))))))))))))))))))))))) (cx := (jw_ws out cJ 1 of ++ (bb_ws b0 bd0 pr0 t0 au0 da (.ref g0) ++ (rw_ws da cJ (r8 d0 d1 d2 d3 d4 d5 d6 d7) ++ (bd_ws bd0 h0 ro lo n cR (rrf rb) (rrf lb) ++ (pr_ws pr0 h0 cm cJ ccf ++ (ha_ws h0 aw ax ay cJ cI w csc cst cL ++ (tt_ws t0 ka aa ba sa (.ref g0) cJ T ++ gp_ws g0 mF mE P f1 k1 Q f2 k2 G)))))))) (wr := (au_ws au0 bd0 pr0 tu0 sd ++ (tt_ws tu0 uka uaa uba usa gu cJ T0 ++ (mo_ws m0 e0 (nI (t_tn T)) (nI n) (nI (t_bc T)) (lN P) (lN Q) (lN G) (lN (ckey (t_tn T) (t_kc T) (t_kp T))) (lN (t_pa T)) (lN (t_pb T)) (t_sht T) a0 a1 a2 a3 a4 a5 a6 a7 a8 a9 mb0 mb1 oc mb2 mb3 mb4 mb5 ++ (iw_ws a7 cI 256 bf ++ (iw_ws a8 cI 64 sc ++ (iw_ws a9 cI 8 st ++ (iw_ws mb0 cI 8 kS ++ (iw_ws mb1 cI 64 kR ++ (jw_ws a2 cJ 4 tf ++ (jw_ws a0 cJ 1232 nf ++ (jw_ws a1 cJ 616 cf ++ (iw_ws a4 cI 4 kf ++ (jw_ws mb2 cJ 4 ky ++ (jw_ws a3 cJ 16 lf ++ (iw_ws a5 cI 4 sf ++ (iw_ws a6 cI 64 vf ++ (jw_ws mb3 cJ 128 md ++ (jw_ws mb4 cJ 4 sh ++ iw_ws mb5 cI 64 ct))))))))))))))))))) (rx := (jw_ws out cJ 1 of ++ (bb_ws b0 bd0 pr0 t0 au0 da (.ref g0) ++ (rw_ws da cJ (r8 u9.1.1 u9.1.2.1 u9.1.2.2.1 u9.1.2.2.2.1 u9.1.2.2.2.2.1 u9.1.2.2.2.2.2.1 u9.1.2.2.2.2.2.2.1 u9.1.2.2.2.2.2.2.2) ++ (bd_ws bd0 h0 ro lo n cR (rrf rb) (rrf lb) ++ (pr_ws pr0 h0 cm cJ u9.2.1 ++ (hu_ws h0 aw ax ay cJ cI u9.2.2 ++ (tt_ws t0 ka aa ba sa (.ref g0) cJ T ++ gp_ws g0 mF mE P f1 k1 Q f2 k2 G)))))))) (pl := bpool rb lb cJ R Lk) (pl1 := bpool rb lb cJ R Lk) hP hD [0, 1, 2, 3, 4, 5, 6, 7, 8, 9, 10, 11, 12, 13, 14, 15, 16, 23, 24, 25] [17, 18, 19, 20, 21, 22, 26, 27, 28, 29, 30, 31, 32, 33, 34, 35, 36, 37, 38, 39, 40, 41, 42] rfl rfl (by decide) (by decide) hk1 hFc hP1 hD1
      have hP := hP.part (cx := (jw_ws out cJ 1 of ++ (bb_ws b0 bd0 pr0 t0 au0 da (.ref g0) ++ (rw_ws da cJ (r8 u9.1.1 u9.1.2.1 u9.1.2.2.1 u9.1.2.2.2.1 u9.1.2.2.2.2.1 u9.1.2.2.2.2.2.1 u9.1.2.2.2.2.2.2.1 u9.1.2.2.2.2.2.2.2) ++ (bd_ws bd0 h0 ro lo n cR (rrf rb) (rrf lb) ++ (pr_ws pr0 h0 cm cJ u9.2.1 ++ (hu_ws h0 aw ax ay cJ cI u9.2.2 ++ (tt_ws t0 ka aa ba sa (.ref g0) cJ T ++ (au_ws au0 bd0 pr0 tu0 sd ++ (tt_ws tu0 uka uaa uba usa gu cJ T0 ++ (gp_ws g0 mF mE P f1 k1 Q f2 k2 G ++ (mo_ws m0 e0 (nI (t_tn T)) (nI n) (nI (t_bc T)) (lN P) (lN Q) (lN G) (lN (ckey (t_tn T) (t_kc T) (t_kp T))) (lN (t_pa T)) (lN (t_pb T)) (t_sht T) a0 a1 a2 a3 a4 a5 a6 a7 a8 a9 mb0 mb1 oc mb2 mb3 mb4 mb5 ++ (iw_ws a7 cI 256 bf ++ (iw_ws a8 cI 64 sc ++ (iw_ws a9 cI 8 st ++ (iw_ws mb0 cI 8 kS ++ (iw_ws mb1 cI 64 kR ++ (jw_ws a2 cJ 4 tf ++ (jw_ws a0 cJ 1232 nf ++ (jw_ws a1 cJ 616 cf ++ (iw_ws a4 cI 4 kf ++ (jw_ws mb2 cJ 4 ky ++ (jw_ws a3 cJ 16 lf ++ (iw_ws a5 cI 4 sf ++ (iw_ws a6 cI 64 vf ++ (jw_ws mb3 cJ 128 md ++ (jw_ws mb4 cJ 4 sh ++ iw_ws mb5 cI 64 ct))))))))))))))))))))))))))) [23, 24, 25, 26, 27, 28, 29, 30, 31, 32, 33, 34, 35, 36, 37, 38, 39, 0, 1, 2, 3, 4, 5, 40, 41, 42, 6, 7, 8, 9, 10, 11, 12, 13, 14, 15, 16, 17, 18, 19, 20, 21, 22] rfl
      have hD := hD.part (cx := (jw_ws out cJ 1 of ++ (bb_ws b0 bd0 pr0 t0 au0 da (.ref g0) ++ (rw_ws da cJ (r8 u9.1.1 u9.1.2.1 u9.1.2.2.1 u9.1.2.2.2.1 u9.1.2.2.2.2.1 u9.1.2.2.2.2.2.1 u9.1.2.2.2.2.2.2.1 u9.1.2.2.2.2.2.2.2) ++ (bd_ws bd0 h0 ro lo n cR (rrf rb) (rrf lb) ++ (pr_ws pr0 h0 cm cJ u9.2.1 ++ (hu_ws h0 aw ax ay cJ cI u9.2.2 ++ (tt_ws t0 ka aa ba sa (.ref g0) cJ T ++ (au_ws au0 bd0 pr0 tu0 sd ++ (tt_ws tu0 uka uaa uba usa gu cJ T0 ++ (gp_ws g0 mF mE P f1 k1 Q f2 k2 G ++ (mo_ws m0 e0 (nI (t_tn T)) (nI n) (nI (t_bc T)) (lN P) (lN Q) (lN G) (lN (ckey (t_tn T) (t_kc T) (t_kp T))) (lN (t_pa T)) (lN (t_pb T)) (t_sht T) a0 a1 a2 a3 a4 a5 a6 a7 a8 a9 mb0 mb1 oc mb2 mb3 mb4 mb5 ++ (iw_ws a7 cI 256 bf ++ (iw_ws a8 cI 64 sc ++ (iw_ws a9 cI 8 st ++ (iw_ws mb0 cI 8 kS ++ (iw_ws mb1 cI 64 kR ++ (jw_ws a2 cJ 4 tf ++ (jw_ws a0 cJ 1232 nf ++ (jw_ws a1 cJ 616 cf ++ (iw_ws a4 cI 4 kf ++ (jw_ws mb2 cJ 4 ky ++ (jw_ws a3 cJ 16 lf ++ (iw_ws a5 cI 4 sf ++ (iw_ws a6 cI 64 vf ++ (jw_ws mb3 cJ 128 md ++ (jw_ws mb4 cJ 4 sh ++ iw_ws mb5 cI 64 ct))))))))))))))))))))))))))) [23, 24, 25, 26, 27, 28, 29, 30, 31, 32, 33, 34, 35, 36, 37, 38, 39, 0, 1, 2, 3, 4, 5, 40, 41, 42, 6, 7, 8, 9, 10, 11, 12, 13, 14, 15, 16, 17, 18, 19, 20, 21, 22] (by decide) rfl
      generalize H1 = H at hP hS ⊢
      clear hPc hDc hFc hP1 hD1 hK1 ht hk1 hz1
      have hr9 : r_2 = 1 := hw
      subst hr9
      refine lv_istore (lv' := [(5, .int 1), (4, .int (nI i)), (3, .ref out), (2, .ref m0), (1, .ref b0), (0, .ref b)]) hx hb d_law_1045 hl (by decide) rfl (fun ls hl => ?_)
      refine lv_aload_n hx hb d_law_1047 rfl (lv_at hl 3 rfl) ?_
      refine lv_aload_n hx hb d_law_1048 rfl (lv_at hl 5 rfl) ?_
      refine lv_iload hx hb d_law_1049 (lv_at hl 1 rfl) ?_
      refine lv_iconst (v := 1) hx hb d_law_1051 (by decide) ?_
      refine lv_iadd hx hb d_law_1052 ?_
      rw [show ((nI i) + 1 : Int32) = nI (i + 1) from nI_add _ 1]
      refine va_sld hx hb hX hbl hbA hS (vp_in_nI (by omega) (by omega)) d_law_1053 ?_
      rw [show (xs (nI (i + 1)).toNatClampNeg : Int32) = xs (i + 1) from by rw [nI_clamp (by omega)]]
      rw [show (xs (i + 1) : Int32) = x1 from hx1.symm]
      refine lv_aload_n hx hb d_law_1054 rfl (lv_at hl 5 rfl) ?_
      refine lv_iload hx hb d_law_1055 (lv_at hl 1 rfl) ?_
      refine lv_iconst (v := 2) hx hb d_law_1057 (by decide) ?_
      refine lv_iadd hx hb d_law_1058 ?_
      rw [show ((nI i) + 2 : Int32) = nI (i + 2) from nI_add _ 2]
      refine va_sld hx hb hX hbl hbA hS (vp_in_nI (by omega) (by omega)) d_law_1059 ?_
      rw [show (xs (nI (i + 2)).toNatClampNeg : Int32) = xs (i + 2) from by rw [nI_clamp (by omega)]]
      rw [show (xs (i + 2) : Int32) = x2 from hx2.symm]
      refine lv_if_eq (tgt := 1067) hx hb d_law_1060 (by decide) (fun c_3 => ?_) (fun c_3 => ?_)
      · -- taken
        exact absurd c_3 (by rw [hx2]; exact hx0)
      · -- not taken
        refine lv_iconst (v := 1) hx hb d_law_1063 (by decide) ?_
        refine lv_goto (tgt := 1068) hx hb d_law_1064 (by decide) ?_
        refine lv_aload_n hx hb d_law_1068 rfl (lv_at hl 5 rfl) ?_
        refine lv_iload hx hb d_law_1069 (lv_at hl 1 rfl) ?_
        refine lv_iconst (v := 3) hx hb d_law_1071 (by decide) ?_
        refine lv_iadd hx hb d_law_1072 ?_
        rw [show ((nI i) + 3 : Int32) = nI (i + 3) from nI_add _ 3]
        refine va_sld hx hb hX hbl hbA hS (vp_in_nI (by omega) (by omega)) d_law_1073 ?_
        rw [show (xs (nI (i + 3)).toNatClampNeg : Int32) = xs (i + 3) from by rw [nI_clamp (by omega)]]
        refine lv_i2l (v := (xs (i + 3) : Int32).toInt64) hx hb d_law_1074 rfl ?_
        refine lv_bipush (v := 32) hx hb d_law_1075 (by decide) ?_
        refine lv_lshl (v := ((xs (i + 3) : Int32).toInt64 : Int64) <<< ((32 : Int32).toInt64 &&& 63)) hx hb d_law_1077 rfl ?_
        refine lv_aload_n hx hb d_law_1078 rfl (lv_at hl 5 rfl) ?_
        refine lv_iload hx hb d_law_1079 (lv_at hl 1 rfl) ?_
        refine lv_iconst (v := 4) hx hb d_law_1081 (by decide) ?_
        refine lv_iadd hx hb d_law_1082 ?_
        rw [show ((nI i) + 4 : Int32) = nI (i + 4) from nI_add _ 4]
        refine va_sld hx hb hX hbl hbA hS (vp_in_nI (by omega) (by omega)) d_law_1083 ?_
        rw [show (xs (nI (i + 4)).toNatClampNeg : Int32) = xs (i + 4) from by rw [nI_clamp (by omega)]]
        refine lv_i2l (v := (xs (i + 4) : Int32).toInt64) hx hb d_law_1084 rfl ?_
        refine lv_ldc2 (v := 4294967295) hx hb hown (hts _ (List.mem_cons_of_mem _ gk_1202)) d_law_1085 ?_
        refine lv_land hx hb d_law_1088 ?_
        refine lv_lor hx hb d_law_1089 ?_
        rw [show ((((xs (i + 3) : Int32).toInt64 : Int64) <<< ((32 : Int32).toInt64 &&& 63)) ||| (((xs (i + 4) : Int32).toInt64) &&& 4294967295) : Int64) = x3 from hx3.symm]
        refine lv_aload_n hx hb d_law_1090 rfl (lv_at hl 5 rfl) ?_
        refine lv_iload hx hb d_law_1091 (lv_at hl 1 rfl) ?_
        refine lv_iconst (v := 5) hx hb d_law_1093 (by decide) ?_
        refine lv_iadd hx hb d_law_1094 ?_
        rw [show ((nI i) + 5 : Int32) = nI (i + 5) from nI_add _ 5]
        refine va_sld hx hb hX hbl hbA hS (vp_in_nI (by omega) (by omega)) d_law_1095 ?_
        rw [show (xs (nI (i + 5)).toNatClampNeg : Int32) = xs (i + 5) from by rw [nI_clamp (by omega)]]
        refine lv_i2l (v := (xs (i + 5) : Int32).toInt64) hx hb d_law_1096 rfl ?_
        refine lv_bipush (v := 32) hx hb d_law_1097 (by decide) ?_
        refine lv_lshl (v := ((xs (i + 5) : Int32).toInt64 : Int64) <<< ((32 : Int32).toInt64 &&& 63)) hx hb d_law_1099 rfl ?_
        refine lv_aload_n hx hb d_law_1100 rfl (lv_at hl 5 rfl) ?_
        refine lv_iload hx hb d_law_1101 (lv_at hl 1 rfl) ?_
        refine lv_bipush (v := 6) hx hb d_law_1103 (by decide) ?_
        refine lv_iadd hx hb d_law_1105 ?_
        rw [show ((nI i) + 6 : Int32) = nI (i + 6) from nI_add _ 6]
        refine va_sld hx hb hX hbl hbA hS (vp_in_nI (by omega) (by omega)) d_law_1106 ?_
        rw [show (xs (nI (i + 6)).toNatClampNeg : Int32) = xs (i + 6) from by rw [nI_clamp (by omega)]]
        refine lv_i2l (v := (xs (i + 6) : Int32).toInt64) hx hb d_law_1107 rfl ?_
        refine lv_ldc2 (v := 4294967295) hx hb hown (hts _ (List.mem_cons_of_mem _ gk_1202)) d_law_1108 ?_
        refine lv_land hx hb d_law_1111 ?_
        refine lv_lor hx hb d_law_1112 ?_
        rw [show ((((xs (i + 5) : Int32).toInt64 : Int64) <<< ((32 : Int32).toInt64 &&& 63)) ||| (((xs (i + 6) : Int32).toInt64) &&& 4294967295) : Int64) = x4 from hx4.symm]
        refine lv_aload_n hx hb d_law_1113 rfl (lv_at hl 5 rfl) ?_
        refine lv_iload hx hb d_law_1114 (lv_at hl 1 rfl) ?_
        refine lv_bipush (v := 7) hx hb d_law_1116 (by decide) ?_
        refine lv_iadd hx hb d_law_1118 ?_
        rw [show ((nI i) + 7 : Int32) = nI (i + 7) from nI_add _ 7]
        refine va_sld hx hb hX hbl hbA hS (vp_in_nI (by omega) (by omega)) d_law_1119 ?_
        rw [show (xs (nI (i + 7)).toNatClampNeg : Int32) = xs (i + 7) from by rw [nI_clamp (by omega)]]
        refine lv_i2l (v := (xs (i + 7) : Int32).toInt64) hx hb d_law_1120 rfl ?_
        refine lv_bipush (v := 32) hx hb d_law_1121 (by decide) ?_
        refine lv_lshl (v := ((xs (i + 7) : Int32).toInt64 : Int64) <<< ((32 : Int32).toInt64 &&& 63)) hx hb d_law_1123 rfl ?_
        refine lv_aload_n hx hb d_law_1124 rfl (lv_at hl 5 rfl) ?_
        refine lv_iload hx hb d_law_1125 (lv_at hl 1 rfl) ?_
        refine lv_bipush (v := 8) hx hb d_law_1127 (by decide) ?_
        refine lv_iadd hx hb d_law_1129 ?_
        rw [show ((nI i) + 8 : Int32) = nI (i + 8) from nI_add _ 8]
        refine va_sld hx hb hX hbl hbA hS (vp_in_nI (by omega) (by omega)) d_law_1130 ?_
        rw [show (xs (nI (i + 8)).toNatClampNeg : Int32) = xs (i + 8) from by rw [nI_clamp (by omega)]]
        refine lv_i2l (v := (xs (i + 8) : Int32).toInt64) hx hb d_law_1131 rfl ?_
        refine lv_ldc2 (v := 4294967295) hx hb hown (hts _ (List.mem_cons_of_mem _ gk_1202)) d_law_1132 ?_
        refine lv_land hx hb d_law_1135 ?_
        refine lv_lor hx hb d_law_1136 ?_
        rw [show ((((xs (i + 7) : Int32).toInt64 : Int64) <<< ((32 : Int32).toInt64 &&& 63)) ||| (((xs (i + 8) : Int32).toInt64) &&& 4294967295) : Int64) = x5 from hx5.symm]
        refine lv_aload_n hx hb d_law_1137 rfl (lv_at hl 5 rfl) ?_
        refine lv_iload hx hb d_law_1138 (lv_at hl 1 rfl) ?_
        refine lv_bipush (v := 9) hx hb d_law_1140 (by decide) ?_
        refine lv_iadd hx hb d_law_1142 ?_
        rw [show ((nI i) + 9 : Int32) = nI (i + 9) from nI_add _ 9]
        refine va_sld hx hb hX hbl hbA hS (vp_in_nI (by omega) (by omega)) d_law_1143 ?_
        rw [show (xs (nI (i + 9)).toNatClampNeg : Int32) = xs (i + 9) from by rw [nI_clamp (by omega)]]
        refine lv_i2l (v := (xs (i + 9) : Int32).toInt64) hx hb d_law_1144 rfl ?_
        refine lv_bipush (v := 32) hx hb d_law_1145 (by decide) ?_
        refine lv_lshl (v := ((xs (i + 9) : Int32).toInt64 : Int64) <<< ((32 : Int32).toInt64 &&& 63)) hx hb d_law_1147 rfl ?_
        refine lv_aload_n hx hb d_law_1148 rfl (lv_at hl 5 rfl) ?_
        refine lv_iload hx hb d_law_1149 (lv_at hl 1 rfl) ?_
        refine lv_bipush (v := 10) hx hb d_law_1151 (by decide) ?_
        refine lv_iadd hx hb d_law_1153 ?_
        rw [show ((nI i) + 10 : Int32) = nI (i + 10) from nI_add _ 10]
        refine va_sld hx hb hX hbl hbA hS (vp_in_nI (by omega) (by omega)) d_law_1154 ?_
        rw [show (xs (nI (i + 10)).toNatClampNeg : Int32) = xs (i + 10) from by rw [nI_clamp (by omega)]]
        refine lv_i2l (v := (xs (i + 10) : Int32).toInt64) hx hb d_law_1155 rfl ?_
        refine lv_ldc2 (v := 4294967295) hx hb hown (hts _ (List.mem_cons_of_mem _ gk_1202)) d_law_1156 ?_
        refine lv_land hx hb d_law_1159 ?_
        refine lv_lor hx hb d_law_1160 ?_
        rw [show ((((xs (i + 9) : Int32).toInt64 : Int64) <<< ((32 : Int32).toInt64 &&& 63)) ||| (((xs (i + 10) : Int32).toInt64) &&& 4294967295) : Int64) = x6 from hx6.symm]
        have hPc := hP.sub (ws' := (mo_ws m0 e0 (nI (t_tn T)) (nI n) (nI (t_bc T)) (lN P) (lN Q) (lN G) (lN (ckey (t_tn T) (t_kc T) (t_kp T))) (lN (t_pa T)) (lN (t_pb T)) (t_sht T) a0 a1 a2 a3 a4 a5 a6 a7 a8 a9 mb0 mb1 oc mb2 mb3 mb4 mb5 ++ (iw_ws a7 cI 256 bf ++ (iw_ws a8 cI 64 sc ++ (iw_ws a9 cI 8 st ++ (iw_ws mb0 cI 8 kS ++ (iw_ws mb1 cI 64 kR ++ (jw_ws a2 cJ 4 tf ++ (jw_ws a0 cJ 1232 nf ++ (jw_ws a1 cJ 616 cf ++ (iw_ws a6 cI 64 vf ++ (jw_ws mb3 cJ 128 md ++ (iw_ws a4 cI 4 kf ++ jw_ws a3 cJ 16 lf))))))))))))) [26, 27, 28, 29, 30, 31, 32, 33, 34, 39, 40, 35, 37] rfl
        have hDc := hD.sub (ws' := (mo_ws m0 e0 (nI (t_tn T)) (nI n) (nI (t_bc T)) (lN P) (lN Q) (lN G) (lN (ckey (t_tn T) (t_kc T) (t_kp T))) (lN (t_pa T)) (lN (t_pb T)) (t_sht T) a0 a1 a2 a3 a4 a5 a6 a7 a8 a9 mb0 mb1 oc mb2 mb3 mb4 mb5 ++ (iw_ws a7 cI 256 bf ++ (iw_ws a8 cI 64 sc ++ (iw_ws a9 cI 8 st ++ (iw_ws mb0 cI 8 kS ++ (iw_ws mb1 cI 64 kR ++ (jw_ws a2 cJ 4 tf ++ (jw_ws a0 cJ 1232 nf ++ (jw_ws a1 cJ 616 cf ++ (iw_ws a6 cI 64 vf ++ (jw_ws mb3 cJ 128 md ++ (iw_ws a4 cI 4 kf ++ jw_ws a3 cJ 16 lf))))))))))))) [26, 27, 28, 29, 30, 31, 32, 33, 34, 39, 40, 35, 37] (by decide) rfl
        have hKc := hK.sub (tys' := [(cJ, .long), (cI, .int)]) [0, 1] rfl
        have hFc := va_free (wc := (mo_ws m0 e0 (nI (t_tn T)) (nI n) (nI (t_bc T)) (lN P) (lN Q) (lN G) (lN (ckey (t_tn T) (t_kc T) (t_kp T))) (lN (t_pa T)) (lN (t_pb T)) (t_sht T) a0 a1 a2 a3 a4 a5 a6 a7 a8 a9 mb0 mb1 oc mb2 mb3 mb4 mb5 ++ (iw_ws a7 cI 256 bf ++ (iw_ws a8 cI 64 sc ++ (iw_ws a9 cI 8 st ++ (iw_ws mb0 cI 8 kS ++ (iw_ws mb1 cI 64 kR ++ (jw_ws a2 cJ 4 tf ++ (jw_ws a0 cJ 1232 nf ++ (jw_ws a1 cJ 616 cf ++ (iw_ws a6 cI 64 vf ++ (jw_ws mb3 cJ 128 md ++ (iw_ws a4 cI 4 kf ++ jw_ws a3 cJ 16 lf))))))))))))) hD hS hA [26, 27, 28, 29, 30, 31, 32, 33, 34, 39, 40, 35, 37] rfl
        refine va_calli (va_runV (As := [.int x1, .int 1, .long x3, .long x4, .long x5, .long x6]) (rest := []) ⟨hx, hb, hml, hown, hts⟩ (c_Bm_makeBallot_1 l dC dI cJ cI H.size m0 e0 (t_tn T) n (t_bc T) P Q G (ckey (t_tn T) (t_kc T) (t_kp T)) (t_pa T) (t_pb T) (t_sht T) a0 a1 a2 a3 a4 a5 a6 a7 a8 a9 mb0 mb1 oc mb2 mb3 mb4 mb5 bf sc st vf kf tf nf cf md lf (t_ko T) (t_ao T) ky (fun i => lN (t_ao T i)) x1 1 x3 x4 x5 x6 htn hgr hn hsh0 hrk hrb hal ((bC1_iff hRT).mp hC1)) (cwV 6 hts (gw_V gk_1141 gk_1142 gk_1143 gk_7 gk_1144) rfl rfl rfl (by decide +kernel) ⟨(Nat.le_of_ble_eq_true rfl), (Nat.le_of_ble_eq_true rfl)⟩) ⟨fun a U g mk q => by obtain ⟨q0, q1, qP, qK, qD⟩ := q; exact ⟨q0, q1, qP, va_K.moved (u := U) (U := U.calling g mk a) (Vm.Alike.refl U.vm) qK, qD⟩, va_recv hK hP (ci := 8) (q0 := 26) rfl rfl, fun U hU hW => ⟨rfl, by rw [hU], by rw [hU]; exact hPc, va_K.moved hW.alike hKc, hDc.weaken (fun _ _ _ _ => trivial)⟩⟩ rfl rfl hl.1 rfl (lv_room (Nat.le_of_ble_eq_true rfl)) d_law_1161 ⟨show cells + 8 + 0 ≤ 601024 by omega, show slots + 48 + 0 ≤ 7293034 by omega⟩) hS (fun q _ h => hFc q h) hFc (fun r_4 v9 t9 H1 locs ht hvm hw hB hz1 hk1 hS => ?_)
        obtain ⟨hP1, hK1, hD1⟩ := hB
        rw [ht] at hP1
        obtain ⟨hP, hD⟩ := va_joinQ (X := (jw_ws out cJ 1 of ++ (bb_ws b0 bd0 pr0 t0 au0 da (.ref g0) ++ (rw_ws da cJ (r8 u9.1.1 u9.1.2.1 u9.1.2.2.1 u9.1.2.2.2.1 u9.1.2.2.2.2.1 u9.1.2.2.2.2.2.1 u9.1.2.2.2.2.2.2.1 u9.1.2.2.2.2.2.2.2) ++ (bd_ws bd0 h0 ro lo n cR (rrf rb) (rrf lb) ++ (pr_ws pr0 h0 cm cJ u9.2.1 ++ (hu_ws h0 aw ax ay cJ cI u9.2.2 ++ (tt_ws t0 ka aa ba sa (.ref g0) cJ T ++ (au_ws au0 bd0 pr0 tu0 sd ++ (tt_ws tu0 uka uaa uba usa gu cJ T0 ++ (gp_ws g0 mF mE P f1 k1 Q f2 k2 G ++ (mo_ws m0 e0 (nI (t_tn T)) (nI n) (nI (t_bc T)) (lN P) (lN Q) (lN G) (lN (ckey (t_tn T) (t_kc T) (t_kp T))) (lN (t_pa T)) (lN (t_pb T)) (t_sht T) a0 a1 a2 a3 a4 a5 a6 a7 a8 a9 mb0 mb1 oc mb2 mb3 mb4 mb5 ++ (iw_ws a7 cI 256 bf ++ (iw_ws a8 cI 64 sc ++ (iw_ws a9 cI 8 st ++ (iw_ws mb0 cI 8 kS ++ (iw_ws mb1 cI 64 kR ++ (jw_ws a2 cJ 4 tf ++ (jw_ws a0 cJ 1232 nf ++ (jw_ws a1 cJ 616 cf ++ (iw_ws a4 cI 4 kf ++ (jw_ws mb2 cJ 4 ky ++ (jw_ws a3 cJ 16 lf ++ (iw_ws a5 cI 4 sf ++ (iw_ws a6 cI 64 vf ++ (jw_ws mb3 cJ 128 md ++ (jw_ws mb4 cJ 4 sh ++ iw_ws mb5 cI 64 ct))))))))))))))))))))))))))) (cx := (mo_ws m0 e0 (nI (t_tn T)) (nI n) (nI (t_bc T)) (lN P) (lN Q) (lN G) (lN (ckey (t_tn T) (t_kc T) (t_kp T))) (lN (t_pa T)) (lN (t_pb T)) (t_sht T) a0 a1 a2 a3 a4 a5 a6 a7 a8 a9 mb0 mb1 oc mb2 mb3 mb4 mb5 ++ (iw_ws a7 cI 256 bf ++ (iw_ws a8 cI 64 sc ++ (iw_ws a9 cI 8 st ++ (iw_ws mb0 cI 8 kS ++ (iw_ws mb1 cI 64 kR ++ (jw_ws a2 cJ 4 tf ++ (jw_ws a0 cJ 1232 nf ++ (jw_ws a1 cJ 616 cf ++ (iw_ws a6 cI 64 vf ++ (jw_ws mb3 cJ 128 md ++ (iw_ws a4 cI 4 kf ++ jw_ws a3 cJ 16 lf))))))))))))) (wr := (jw_ws out cJ 1 of ++ (bb_ws b0 bd0 pr0 t0 au0 da (.ref g0) ++ (rw_ws da cJ (r8 u9.1.1 u9.1.2.1 u9.1.2.2.1 u9.1.2.2.2.1 u9.1.2.2.2.2.1 u9.1.2.2.2.2.2.1 u9.1.2.2.2.2.2.2.1 u9.1.2.2.2.2.2.2.2) ++ (bd_ws bd0 h0 ro lo n cR (rrf rb) (rrf lb) ++ (pr_ws pr0 h0 cm cJ u9.2.1 ++ (hu_ws h0 aw ax ay cJ cI u9.2.2 ++ (tt_ws t0 ka aa ba sa (.ref g0) cJ T ++ (au_ws au0 bd0 pr0 tu0 sd ++ (tt_ws tu0 uka uaa uba usa gu cJ T0 ++ (gp_ws g0 mF mE P f1 k1 Q f2 k2 G ++ (jw_ws mb2 cJ 4 ky ++ (iw_ws a5 cI 4 sf ++ (jw_ws mb4 cJ 4 sh ++ iw_ws mb5 cI 64 ct)))))))))))))) (w1 := (mo_ws m0 1 (nI (t_tn T)) (nI n) (nI (t_bc T)) (lN P) (lN Q) (lN G) (lN (ckey (t_tn T) (t_kc T) (t_kp T))) (lN (t_pa T)) (lN (t_pb T)) (t_sht T) a0 a1 a2 a3 a4 a5 a6 a7 a8 a9 mb0 mb1 oc mb2 mb3 mb4 mb5 ++ (iw_ws a7 cI 256 bf ++ (iw_ws a8 cI 64 sc ++ (iw_ws a9 cI 8 st ++ (iw_ws mb0 cI 8 kS ++ (iw_ws mb1 cI 64 kR ++ (jw_ws a2 cJ 4 tf ++ (jw_ws a0 cJ 1232 nf ++ (jw_ws a1 cJ 616 cf ++ (iw_ws a6 cI 64 vf ++ (jw_ws mb3 cJ 128 md ++ (iw_ws a4 cI 4 kf ++ jw_ws a3 cJ 16 lf))))))))))))) (pl := bpool rb lb cJ R Lk) hP hD [26, 27, 28, 29, 30, 31, 32, 33, 34, 39, 40, 35, 37] [0, 1, 2, 3, 4, 5, 6, 7, 8, 9, 10, 11, 12, 13, 14, 15, 16, 17, 18, 19, 20, 21, 22, 23, 24, 25, 36, 38, 41, 42] rfl rfl (by decide) (by decide) hk1 hFc hP1 hD1
        have hP := hP.part (cx := (jw_ws out cJ 1 of ++ (bb_ws b0 bd0 pr0 t0 au0 da (.ref g0) ++ (rw_ws da cJ (r8 u9.1.1 u9.1.2.1 u9.1.2.2.1 u9.1.2.2.2.1 u9.1.2.2.2.2.1 u9.1.2.2.2.2.2.1 u9.1.2.2.2.2.2.2.1 u9.1.2.2.2.2.2.2.2) ++ (bd_ws bd0 h0 ro lo n cR (rrf rb) (rrf lb) ++ (pr_ws pr0 h0 cm cJ u9.2.1 ++ (hu_ws h0 aw ax ay cJ cI u9.2.2 ++ (tt_ws t0 ka aa ba sa (.ref g0) cJ T ++ (au_ws au0 bd0 pr0 tu0 sd ++ (tt_ws tu0 uka uaa uba usa gu cJ T0 ++ (gp_ws g0 mF mE P f1 k1 Q f2 k2 G ++ (mo_ws m0 1 (nI (t_tn T)) (nI n) (nI (t_bc T)) (lN P) (lN Q) (lN G) (lN (ckey (t_tn T) (t_kc T) (t_kp T))) (lN (t_pa T)) (lN (t_pb T)) (t_sht T) a0 a1 a2 a3 a4 a5 a6 a7 a8 a9 mb0 mb1 oc mb2 mb3 mb4 mb5 ++ (iw_ws a7 cI 256 bf ++ (iw_ws a8 cI 64 sc ++ (iw_ws a9 cI 8 st ++ (iw_ws mb0 cI 8 kS ++ (iw_ws mb1 cI 64 kR ++ (jw_ws a2 cJ 4 tf ++ (jw_ws a0 cJ 1232 nf ++ (jw_ws a1 cJ 616 cf ++ (iw_ws a4 cI 4 kf ++ (jw_ws mb2 cJ 4 ky ++ (jw_ws a3 cJ 16 lf ++ (iw_ws a5 cI 4 sf ++ (iw_ws a6 cI 64 vf ++ (jw_ws mb3 cJ 128 md ++ (jw_ws mb4 cJ 4 sh ++ iw_ws mb5 cI 64 ct))))))))))))))))))))))))))) [0, 1, 2, 3, 4, 5, 6, 7, 8, 9, 10, 11, 12, 13, 14, 15, 16, 17, 18, 19, 20, 21, 22, 23, 24, 25, 30, 31, 32, 33, 34, 35, 36, 37, 38, 41, 26, 42, 27, 39, 40, 28, 29] rfl
        have hD := hD.part (cx := (jw_ws out cJ 1 of ++ (bb_ws b0 bd0 pr0 t0 au0 da (.ref g0) ++ (rw_ws da cJ (r8 u9.1.1 u9.1.2.1 u9.1.2.2.1 u9.1.2.2.2.1 u9.1.2.2.2.2.1 u9.1.2.2.2.2.2.1 u9.1.2.2.2.2.2.2.1 u9.1.2.2.2.2.2.2.2) ++ (bd_ws bd0 h0 ro lo n cR (rrf rb) (rrf lb) ++ (pr_ws pr0 h0 cm cJ u9.2.1 ++ (hu_ws h0 aw ax ay cJ cI u9.2.2 ++ (tt_ws t0 ka aa ba sa (.ref g0) cJ T ++ (au_ws au0 bd0 pr0 tu0 sd ++ (tt_ws tu0 uka uaa uba usa gu cJ T0 ++ (gp_ws g0 mF mE P f1 k1 Q f2 k2 G ++ (mo_ws m0 1 (nI (t_tn T)) (nI n) (nI (t_bc T)) (lN P) (lN Q) (lN G) (lN (ckey (t_tn T) (t_kc T) (t_kp T))) (lN (t_pa T)) (lN (t_pb T)) (t_sht T) a0 a1 a2 a3 a4 a5 a6 a7 a8 a9 mb0 mb1 oc mb2 mb3 mb4 mb5 ++ (iw_ws a7 cI 256 bf ++ (iw_ws a8 cI 64 sc ++ (iw_ws a9 cI 8 st ++ (iw_ws mb0 cI 8 kS ++ (iw_ws mb1 cI 64 kR ++ (jw_ws a2 cJ 4 tf ++ (jw_ws a0 cJ 1232 nf ++ (jw_ws a1 cJ 616 cf ++ (iw_ws a4 cI 4 kf ++ (jw_ws mb2 cJ 4 ky ++ (jw_ws a3 cJ 16 lf ++ (iw_ws a5 cI 4 sf ++ (iw_ws a6 cI 64 vf ++ (jw_ws mb3 cJ 128 md ++ (jw_ws mb4 cJ 4 sh ++ iw_ws mb5 cI 64 ct))))))))))))))))))))))))))) [0, 1, 2, 3, 4, 5, 6, 7, 8, 9, 10, 11, 12, 13, 14, 15, 16, 17, 18, 19, 20, 21, 22, 23, 24, 25, 30, 31, 32, 33, 34, 35, 36, 37, 38, 41, 26, 42, 27, 39, 40, 28, 29] (by decide) rfl
        generalize H1 = H at hP hS ⊢
        clear hPc hDc hFc hP1 hD1 hK1 ht hk1 hz1
        refine lv_istore (lv' := [(6, .int r_4), (5, .int 1), (4, .int (nI i)), (3, .ref out), (2, .ref m0), (1, .ref b0), (0, .ref b)]) hx hb d_law_1164 hl (by decide) rfl (fun ls hl => ?_)
        refine lv_aload_n hx hb d_law_1166 rfl (lv_at hl 4 rfl) ?_
        have hPc := hP.sub (ws' := (mo_ws m0 1 (nI (t_tn T)) (nI n) (nI (t_bc T)) (lN P) (lN Q) (lN G) (lN (ckey (t_tn T) (t_kc T) (t_kp T))) (lN (t_pa T)) (lN (t_pb T)) (t_sht T) a0 a1 a2 a3 a4 a5 a6 a7 a8 a9 mb0 mb1 oc mb2 mb3 mb4 mb5)) [26] rfl
        have hKc := hK.sub (tys' := [(cJ, .long), (cI, .int)]) [0, 1] rfl
        refine va_calli (va_runV (As := []) (rest := []) ⟨hx, hb, hml, hown, hts⟩ (c_Bm_thrown l H dC dI cJ cI m0 1 (nI (t_tn T)) (nI n) (nI (t_bc T)) (lN P) (lN Q) (lN G) (lN (ckey (t_tn T) (t_kc T) (t_kp T))) (lN (t_pa T)) (lN (t_pb T)) (t_sht T) a0 a1 a2 a3 a4 a5 a6 a7 a8 a9 mb0 mb1 oc mb2 mb3 mb4 mb5 hPc) (cwV 0 hts (gw_V gk_1004 gk_1005 gk_1006 gk_7 gk_1007) rfl rfl rfl (by decide +kernel) ⟨(Nat.le_of_ble_eq_true rfl), (Nat.le_of_ble_eq_true rfl)⟩) ⟨fun a U g mk q => ⟨q.1, q.2.1, va_K.moved (u := U) (U := U.calling g mk a) (Vm.Alike.refl U.vm) q.2.2⟩, va_recv hK hP (ci := 8) (q0 := 26) rfl rfl, fun U hU hW => ⟨rfl, hU, va_K.moved hW.alike hKc⟩⟩ rfl rfl hl.1 rfl (lv_room (Nat.le_of_ble_eq_true rfl)) d_law_1167 ⟨show cells + 8 + 0 + 0 ≤ 601024 by omega, show slots + 48 + 0 + 0 ≤ 7293034 by omega⟩) hS (fun q _ h => h.elim) (fun q h => h.elim) (fun r_5 w9 t9 H1 locs ht hvm hw9 hB hz1 hk1 hS => ?_)
        obtain rfl : H = H1 := hB.symm.trans ht
        have hw9 : r_5 = 1 := hw9
        subst hw9
        clear hPc hz1 hk1 hB
        refine lv_iload hx hb d_law_1170 (lv_at hl 1 rfl) ?_
        refine lv_icmp_eq (tgt := 1177) hx hb d_law_1172 (by decide) (fun c_6 => ?_) (fun c_6 => ?_)
        · -- taken
          refine lv_iload hx hb d_law_1177 (lv_at hl 1 rfl) ?_
          refine lv_if_ne (tgt := 1194) hx hb d_law_1179 (by decide) (fun c_7 => ?_) (fun c_7 => ?_)
          · -- taken
            refine lv_goto (tgt := 1965) hx hb d_law_1194 (by decide) ?_
            refine W.widen (k := cells + 20) (n := slots + 200) (by omega) (by omega) ?_
            have hI9 : LI dC dI cJ cI cR A out b0 m0 H := LG.mk hP hD hR
            exact cont _ _ _ hS hI9 (lv_sub hl [2, 3, 4, 5, 6] rfl)
          · -- not taken
            exact absurd c_7 (by decide)
        · -- not taken
          exact absurd c_6 (by decide)
  rcases Nat.lt_or_ge n 150 with hn9 | hn9
  rotate_left
  · -- it holds
    refine lv_aload_n hx hb d_law_927 rfl (lv_at hl 3 rfl) ?_
    refine lv_aload_n hx hb d_law_928 rfl (lv_at hl 4 rfl) ?_
    refine lv_iload hx hb d_law_929 (lv_at hl 0 rfl) ?_
    refine lv_iconst (v := 1) hx hb d_law_931 (by decide) ?_
    refine lv_iadd hx hb d_law_932 ?_
    rw [show ((nI i) + 1 : Int32) = nI (i + 1) from nI_add _ 1]
    refine va_sld hx hb hX hbl hbA hS (vp_in_nI (by omega) (by omega)) d_law_933 ?_
    rw [show (xs (nI (i + 1)).toNatClampNeg : Int32) = xs (i + 1) from by rw [nI_clamp (by omega)]]
    rw [show (xs (i + 1) : Int32) = x1 from hx1.symm]
    refine lv_aload_n hx hb d_law_934 rfl (lv_at hl 4 rfl) ?_
    refine lv_iload hx hb d_law_935 (lv_at hl 0 rfl) ?_
    refine lv_iconst (v := 2) hx hb d_law_937 (by decide) ?_
    refine lv_iadd hx hb d_law_938 ?_
    rw [show ((nI i) + 2 : Int32) = nI (i + 2) from nI_add _ 2]
    refine va_sld hx hb hX hbl hbA hS (vp_in_nI (by omega) (by omega)) d_law_939 ?_
    rw [show (xs (nI (i + 2)).toNatClampNeg : Int32) = xs (i + 2) from by rw [nI_clamp (by omega)]]
    rw [show (xs (i + 2) : Int32) = x2 from hx2.symm]
    refine lv_if_eq (tgt := 947) hx hb d_law_940 (by decide) (fun c_8 => ?_) (fun c_8 => ?_)
    · -- taken
      exact absurd c_8 (by rw [hx2]; exact hx0)
    · -- not taken
      refine lv_iconst (v := 1) hx hb d_law_943 (by decide) ?_
      refine lv_goto (tgt := 948) hx hb d_law_944 (by decide) ?_
      refine lv_aload_n hx hb d_law_948 rfl (lv_at hl 4 rfl) ?_
      refine lv_iload hx hb d_law_949 (lv_at hl 0 rfl) ?_
      refine lv_iconst (v := 3) hx hb d_law_951 (by decide) ?_
      refine lv_iadd hx hb d_law_952 ?_
      rw [show ((nI i) + 3 : Int32) = nI (i + 3) from nI_add _ 3]
      refine va_sld hx hb hX hbl hbA hS (vp_in_nI (by omega) (by omega)) d_law_953 ?_
      rw [show (xs (nI (i + 3)).toNatClampNeg : Int32) = xs (i + 3) from by rw [nI_clamp (by omega)]]
      refine lv_i2l (v := (xs (i + 3) : Int32).toInt64) hx hb d_law_954 rfl ?_
      refine lv_bipush (v := 32) hx hb d_law_955 (by decide) ?_
      refine lv_lshl (v := ((xs (i + 3) : Int32).toInt64 : Int64) <<< ((32 : Int32).toInt64 &&& 63)) hx hb d_law_957 rfl ?_
      refine lv_aload_n hx hb d_law_958 rfl (lv_at hl 4 rfl) ?_
      refine lv_iload hx hb d_law_959 (lv_at hl 0 rfl) ?_
      refine lv_iconst (v := 4) hx hb d_law_961 (by decide) ?_
      refine lv_iadd hx hb d_law_962 ?_
      rw [show ((nI i) + 4 : Int32) = nI (i + 4) from nI_add _ 4]
      refine va_sld hx hb hX hbl hbA hS (vp_in_nI (by omega) (by omega)) d_law_963 ?_
      rw [show (xs (nI (i + 4)).toNatClampNeg : Int32) = xs (i + 4) from by rw [nI_clamp (by omega)]]
      refine lv_i2l (v := (xs (i + 4) : Int32).toInt64) hx hb d_law_964 rfl ?_
      refine lv_ldc2 (v := 4294967295) hx hb hown (hts _ (List.mem_cons_of_mem _ gk_1202)) d_law_965 ?_
      refine lv_land hx hb d_law_968 ?_
      refine lv_lor hx hb d_law_969 ?_
      rw [show ((((xs (i + 3) : Int32).toInt64 : Int64) <<< ((32 : Int32).toInt64 &&& 63)) ||| (((xs (i + 4) : Int32).toInt64) &&& 4294967295) : Int64) = x3 from hx3.symm]
      refine lv_aload_n hx hb d_law_970 rfl (lv_at hl 4 rfl) ?_
      refine lv_iload hx hb d_law_971 (lv_at hl 0 rfl) ?_
      refine lv_iconst (v := 5) hx hb d_law_973 (by decide) ?_
      refine lv_iadd hx hb d_law_974 ?_
      rw [show ((nI i) + 5 : Int32) = nI (i + 5) from nI_add _ 5]
      refine va_sld hx hb hX hbl hbA hS (vp_in_nI (by omega) (by omega)) d_law_975 ?_
      rw [show (xs (nI (i + 5)).toNatClampNeg : Int32) = xs (i + 5) from by rw [nI_clamp (by omega)]]
      refine lv_i2l (v := (xs (i + 5) : Int32).toInt64) hx hb d_law_976 rfl ?_
      refine lv_bipush (v := 32) hx hb d_law_977 (by decide) ?_
      refine lv_lshl (v := ((xs (i + 5) : Int32).toInt64 : Int64) <<< ((32 : Int32).toInt64 &&& 63)) hx hb d_law_979 rfl ?_
      refine lv_aload_n hx hb d_law_980 rfl (lv_at hl 4 rfl) ?_
      refine lv_iload hx hb d_law_981 (lv_at hl 0 rfl) ?_
      refine lv_bipush (v := 6) hx hb d_law_983 (by decide) ?_
      refine lv_iadd hx hb d_law_985 ?_
      rw [show ((nI i) + 6 : Int32) = nI (i + 6) from nI_add _ 6]
      refine va_sld hx hb hX hbl hbA hS (vp_in_nI (by omega) (by omega)) d_law_986 ?_
      rw [show (xs (nI (i + 6)).toNatClampNeg : Int32) = xs (i + 6) from by rw [nI_clamp (by omega)]]
      refine lv_i2l (v := (xs (i + 6) : Int32).toInt64) hx hb d_law_987 rfl ?_
      refine lv_ldc2 (v := 4294967295) hx hb hown (hts _ (List.mem_cons_of_mem _ gk_1202)) d_law_988 ?_
      refine lv_land hx hb d_law_991 ?_
      refine lv_lor hx hb d_law_992 ?_
      rw [show ((((xs (i + 5) : Int32).toInt64 : Int64) <<< ((32 : Int32).toInt64 &&& 63)) ||| (((xs (i + 6) : Int32).toInt64) &&& 4294967295) : Int64) = x4 from hx4.symm]
      refine lv_aload_n hx hb d_law_993 rfl (lv_at hl 4 rfl) ?_
      refine lv_iload hx hb d_law_994 (lv_at hl 0 rfl) ?_
      refine lv_bipush (v := 7) hx hb d_law_996 (by decide) ?_
      refine lv_iadd hx hb d_law_998 ?_
      rw [show ((nI i) + 7 : Int32) = nI (i + 7) from nI_add _ 7]
      refine va_sld hx hb hX hbl hbA hS (vp_in_nI (by omega) (by omega)) d_law_999 ?_
      rw [show (xs (nI (i + 7)).toNatClampNeg : Int32) = xs (i + 7) from by rw [nI_clamp (by omega)]]
      refine lv_i2l (v := (xs (i + 7) : Int32).toInt64) hx hb d_law_1000 rfl ?_
      refine lv_bipush (v := 32) hx hb d_law_1001 (by decide) ?_
      refine lv_lshl (v := ((xs (i + 7) : Int32).toInt64 : Int64) <<< ((32 : Int32).toInt64 &&& 63)) hx hb d_law_1003 rfl ?_
      refine lv_aload_n hx hb d_law_1004 rfl (lv_at hl 4 rfl) ?_
      refine lv_iload hx hb d_law_1005 (lv_at hl 0 rfl) ?_
      refine lv_bipush (v := 8) hx hb d_law_1007 (by decide) ?_
      refine lv_iadd hx hb d_law_1009 ?_
      rw [show ((nI i) + 8 : Int32) = nI (i + 8) from nI_add _ 8]
      refine va_sld hx hb hX hbl hbA hS (vp_in_nI (by omega) (by omega)) d_law_1010 ?_
      rw [show (xs (nI (i + 8)).toNatClampNeg : Int32) = xs (i + 8) from by rw [nI_clamp (by omega)]]
      refine lv_i2l (v := (xs (i + 8) : Int32).toInt64) hx hb d_law_1011 rfl ?_
      refine lv_ldc2 (v := 4294967295) hx hb hown (hts _ (List.mem_cons_of_mem _ gk_1202)) d_law_1012 ?_
      refine lv_land hx hb d_law_1015 ?_
      refine lv_lor hx hb d_law_1016 ?_
      rw [show ((((xs (i + 7) : Int32).toInt64 : Int64) <<< ((32 : Int32).toInt64 &&& 63)) ||| (((xs (i + 8) : Int32).toInt64) &&& 4294967295) : Int64) = x5 from hx5.symm]
      refine lv_aload_n hx hb d_law_1017 rfl (lv_at hl 4 rfl) ?_
      refine lv_iload hx hb d_law_1018 (lv_at hl 0 rfl) ?_
      refine lv_bipush (v := 9) hx hb d_law_1020 (by decide) ?_
      refine lv_iadd hx hb d_law_1022 ?_
      rw [show ((nI i) + 9 : Int32) = nI (i + 9) from nI_add _ 9]
      refine va_sld hx hb hX hbl hbA hS (vp_in_nI (by omega) (by omega)) d_law_1023 ?_
      rw [show (xs (nI (i + 9)).toNatClampNeg : Int32) = xs (i + 9) from by rw [nI_clamp (by omega)]]
      refine lv_i2l (v := (xs (i + 9) : Int32).toInt64) hx hb d_law_1024 rfl ?_
      refine lv_bipush (v := 32) hx hb d_law_1025 (by decide) ?_
      refine lv_lshl (v := ((xs (i + 9) : Int32).toInt64 : Int64) <<< ((32 : Int32).toInt64 &&& 63)) hx hb d_law_1027 rfl ?_
      refine lv_aload_n hx hb d_law_1028 rfl (lv_at hl 4 rfl) ?_
      refine lv_iload hx hb d_law_1029 (lv_at hl 0 rfl) ?_
      refine lv_bipush (v := 10) hx hb d_law_1031 (by decide) ?_
      refine lv_iadd hx hb d_law_1033 ?_
      rw [show ((nI i) + 10 : Int32) = nI (i + 10) from nI_add _ 10]
      refine va_sld hx hb hX hbl hbA hS (vp_in_nI (by omega) (by omega)) d_law_1034 ?_
      rw [show (xs (nI (i + 10)).toNatClampNeg : Int32) = xs (i + 10) from by rw [nI_clamp (by omega)]]
      refine lv_i2l (v := (xs (i + 10) : Int32).toInt64) hx hb d_law_1035 rfl ?_
      refine lv_ldc2 (v := 4294967295) hx hb hown (hts _ (List.mem_cons_of_mem _ gk_1202)) d_law_1036 ?_
      refine lv_land hx hb d_law_1039 ?_
      refine lv_lor hx hb d_law_1040 ?_
      rw [show ((((xs (i + 9) : Int32).toInt64 : Int64) <<< ((32 : Int32).toInt64 &&& 63)) ||| (((xs (i + 10) : Int32).toInt64) &&& 4294967295) : Int64) = x6 from hx6.symm]
      refine lv_aload_n hx hb d_law_1041 rfl (lv_at hl 1 rfl) ?_
      have hPc := hP.part (cx := (jw_ws out cJ 1 of ++ (bb_ws b0 bd0 pr0 t0 au0 da (.ref g0) ++ (rw_ws da cJ (r8 d0 d1 d2 d3 d4 d5 d6 d7) ++ (bd_ws bd0 h0 ro lo n cR (rrf rb) (rrf lb) ++ (pr_ws pr0 h0 cm cJ ccf ++ (ha_ws h0 aw ax ay cJ cI w csc cst cL ++ (tt_ws t0 ka aa ba sa (.ref g0) cJ T ++ gp_ws g0 mF mE P f1 k1 Q f2 k2 G)))))))) [0, 1, 2, 3, 4, 5, 6, 7, 8, 9, 10, 11, 12, 13, 14, 15, 16, 23, 24, 25] rfl
      have hDc := hD.part (cx := (jw_ws out cJ 1 of ++ (bb_ws b0 bd0 pr0 t0 au0 da (.ref g0) ++ (rw_ws da cJ (r8 d0 d1 d2 d3 d4 d5 d6 d7) ++ (bd_ws bd0 h0 ro lo n cR (rrf rb) (rrf lb) ++ (pr_ws pr0 h0 cm cJ ccf ++ (ha_ws h0 aw ax ay cJ cI w csc cst cL ++ (tt_ws t0 ka aa ba sa (.ref g0) cJ T ++ gp_ws g0 mF mE P f1 k1 Q f2 k2 G)))))))) [0, 1, 2, 3, 4, 5, 6, 7, 8, 9, 10, 11, 12, 13, 14, 15, 16, 23, 24, 25] (by decide) rfl
      have hKc := hK.sub (tys' := [(cJ, .long), (cI, .int), (cR, .array .long)]) [0, 1, 2] rfl
      have hFc := va_freeP (cx := (jw_ws out cJ 1 of ++ (bb_ws b0 bd0 pr0 t0 au0 da (.ref g0) ++ (rw_ws da cJ (r8 d0 d1 d2 d3 d4 d5 d6 d7) ++ (bd_ws bd0 h0 ro lo n cR (rrf rb) (rrf lb) ++ (pr_ws pr0 h0 cm cJ ccf ++ (ha_ws h0 aw ax ay cJ cI w csc cst cL ++ (tt_ws t0 ka aa ba sa (.ref g0) cJ T ++ gp_ws g0 mF mE P f1 k1 Q f2 k2 G)))))))) hD hS hA [0, 1, 2, 3, 4, 5, 6, 7, 8, 9, 10, 11, 12, 13, 14, 15, 16, 23, 24, 25] rfl
      have hZc0 : ha_Z rA sA (va_A ((jw_ws out cJ 1 of ++ (bb_ws b0 bd0 pr0 t0 au0 da (.ref g0) ++ (rw_ws da cJ (r8 d0 d1 d2 d3 d4 d5 d6 d7) ++ (bd_ws bd0 h0 ro lo n cR (rrf rb) (rrf lb) ++ (pr_ws pr0 h0 cm cJ ccf ++ (ha_ws h0 aw ax ay cJ cI w csc cst cL ++ (tt_ws t0 ka aa ba sa (.ref g0) cJ T ++ gp_ws g0 mF mE P f1 k1 Q f2 k2 G))))))) ++ bpool rb lb cJ R Lk) H.size) s H := (hZha.kept hS.2.1).narrow hFc
      have hZc1 : xz (va_A ((jw_ws out cJ 1 of ++ (bb_ws b0 bd0 pr0 t0 au0 da (.ref g0) ++ (rw_ws da cJ (r8 d0 d1 d2 d3 d4 d5 d6 d7) ++ (bd_ws bd0 h0 ro lo n cR (rrf rb) (rrf lb) ++ (pr_ws pr0 h0 cm cJ ccf ++ (ha_ws h0 aw ax ay cJ cI w csc cst cL ++ (tt_ws t0 ka aa ba sa (.ref g0) cJ T ++ gp_ws g0 mF mE P f1 k1 Q f2 k2 G))))))) ++ bpool rb lb cJ R Lk) H.size) s H := (hZx.kept hS.2.1).narrow hFc
      have hZc2 : nc_Z s := hZn
      refine vx_calli (vx_runSX (hh := h_Lw_makeBallot) (As := [.ref b0, .int x1, .int 1, .long x3, .long x4, .long x5, .long x6, .ref out]) (rest := []) ⟨hx, hb, hml, hown, hts⟩ (c_Lw_makeBallot_12 l hnt dC dI cJ cI cR H.size b0 bd0 pr0 t0 au0 da h0 ro lo n rb lb cm ccf aw ax ay w csc cst cL ka aa ba sa T g0 mF mE P f1 k1 Q f2 k2 G rA sA R Lk d0 d1 d2 d3 d4 d5 d6 d7 x1 1 x3 x4 x5 x6 out of hok htok hN0 htn hkc hn hn0B hkq (by decide) hC1 hn9) (vx_cwSW 8 hts (gw_Sv gk_667 gk_668 gk_0 gk_669) rfl rfl rfl (by decide +kernel) ⟨(Nat.le_of_ble_eq_true rfl), (Nat.le_of_ble_eq_true rfl)⟩) ⟨fun a U g mk q => by obtain ⟨q0, q1, qP, qK, qD, qZ0, qZ1, qZ2⟩ := q; exact ⟨q0, q1, qP, va_K.moved (u := U) (U := U.calling g mk a) (Vm.Alike.refl U.vm) qK, qD, ha_Z.moved (u := U) (U := U.calling g mk a) (Vm.Alike.refl U.vm) qZ0, xz.same (u := U) (U := U.calling g mk a) rfl qZ1, nc_Z.moved (u := U) (U := U.calling g mk a) (Vm.Alike.refl U.vm) qZ2⟩, fun U hU hW => ⟨rfl, by rw [hU], by rw [hU]; exact hPc, va_K.moved hW.alike hKc, hDc.weaken (fun _ _ _ _ => trivial), by rw [hU]; exact ha_Z.moved hW.alike hZc0, by rw [hU]; exact xz.warm hW hZc1, nc_Z.moved hW.alike hZc2⟩⟩ rfl rfl hl.1 rfl (lv_room (Nat.le_of_ble_eq_true rfl)) d_law_1042 ⟨show cells + 8 ≤ 601024 by omega, show slots + 48 ≤ 7293034 by omega⟩) hS (fun q _ h => hFc q h) hFc (fun q _ h => hFc q h) (fun E9 ce9 q9 u8 t9 H1 locs ht hvm hpx hbx hz1 hk1 hS hce hcv hcl => hpx.elim) (fun r_9 u9 t9 H1 locs ht hvm hw hB hz1 hk1 hS => ?_)
      obtain ⟨hP1, hK1, hD1⟩ := hB
      rw [ht] at hP1
      obtain ⟨hP, hD⟩ := va_joinP (X := (jw_ws out cJ 1 of ++ (bb_ws b0 bd0 pr0 t0 au0 da (.ref g0) ++ (rw_ws da cJ (r8 d0 d1 d2 d3 d4 d5 d6 d7) ++ (bd_ws bd0 h0 ro lo n cR (rrf rb) (rrf lb) ++ (pr_ws pr0 h0 cm cJ ccf ++ (ha_ws h0 aw ax ay cJ cI w csc cst cL ++ (tt_ws t0 ka aa ba sa (.ref g0) cJ T ++ (au_ws au0 bd0 pr0 tu0 sd ++ (tt_ws tu0 uka uaa uba usa gu cJ T0 ++ (gp_ws g0 mF mE P f1 k1 Q f2 k2 G ++ (mo_ws m0 e0 (nI (t_tn T)) (nI n) (nI (t_bc T)) (lN P) (lN Q) (lN G) (lN (ckey (t_tn T) (t_kc T) (t_kp T))) (lN (t_pa T)) (lN (t_pb T)) (t_sht T) a0 a1 a2 a3 a4 a5 a6 a7 a8 a9 mb0 mb1 oc mb2 mb3 mb4 mb5 ++ (iw_ws a7 cI 256 bf ++ (iw_ws a8 cI 64 sc ++ (iw_ws a9 cI 8 st ++ (iw_ws mb0 cI 8 kS ++ (iw_ws mb1 cI 64 kR ++ (jw_ws a2 cJ 4 tf ++ (jw_ws a0 cJ 1232 nf ++ (jw_ws a1 cJ 616 cf ++ (iw_ws a4 cI 4 kf ++ (jw_ws mb2 cJ 4 ky ++ (jw_ws a3 cJ 16 lf ++ (iw_ws a5 cI 4 sf ++ (iw_ws a6 cI 64 vf ++ (jw_ws mb3 cJ 128 md ++ (jw_ws mb4 cJ 4 sh ++ iw_ws mb5 cI 64 ct))))))))))))))))))))))))))) (cx := (jw_ws out cJ 1 of ++ (bb_ws b0 bd0 pr0 t0 au0 da (.ref g0) ++ (rw_ws da cJ (r8 d0 d1 d2 d3 d4 d5 d6 d7) ++ (bd_ws bd0 h0 ro lo n cR (rrf rb) (rrf lb) ++ (pr_ws pr0 h0 cm cJ ccf ++ (ha_ws h0 aw ax ay cJ cI w csc cst cL ++ (tt_ws t0 ka aa ba sa (.ref g0) cJ T ++ gp_ws g0 mF mE P f1 k1 Q f2 k2 G)))))))) (wr := (au_ws au0 bd0 pr0 tu0 sd ++ (tt_ws tu0 uka uaa uba usa gu cJ T0 ++ (mo_ws m0 e0 (nI (t_tn T)) (nI n) (nI (t_bc T)) (lN P) (lN Q) (lN G) (lN (ckey (t_tn T) (t_kc T) (t_kp T))) (lN (t_pa T)) (lN (t_pb T)) (t_sht T) a0 a1 a2 a3 a4 a5 a6 a7 a8 a9 mb0 mb1 oc mb2 mb3 mb4 mb5 ++ (iw_ws a7 cI 256 bf ++ (iw_ws a8 cI 64 sc ++ (iw_ws a9 cI 8 st ++ (iw_ws mb0 cI 8 kS ++ (iw_ws mb1 cI 64 kR ++ (jw_ws a2 cJ 4 tf ++ (jw_ws a0 cJ 1232 nf ++ (jw_ws a1 cJ 616 cf ++ (iw_ws a4 cI 4 kf ++ (jw_ws mb2 cJ 4 ky ++ (jw_ws a3 cJ 16 lf ++ (iw_ws a5 cI 4 sf ++ (iw_ws a6 cI 64 vf ++ (jw_ws mb3 cJ 128 md ++ (jw_ws mb4 cJ 4 sh ++ iw_ws mb5 cI 64 ct))))))))))))))))))) (rx := (jw_ws out cJ 1 of ++ (bb_ws b0 bd0 pr0 t0 au0 da (.ref g0) ++ (rw_ws da cJ (r8 u9.1.1 u9.1.2.1 u9.1.2.2.1 u9.1.2.2.2.1 u9.1.2.2.2.2.1 u9.1.2.2.2.2.2.1 u9.1.2.2.2.2.2.2.1 u9.1.2.2.2.2.2.2.2) ++ (bd_ws bd0 h0 ro lo n cR (rrf rb) (rrf lb) ++ (pr_ws pr0 h0 cm cJ u9.2.1 ++ (hu_ws h0 aw ax ay cJ cI u9.2.2 ++ (tt_ws t0 ka aa ba sa (.ref g0) cJ T ++ gp_ws g0 mF mE P f1 k1 Q f2 k2 G)))))))) (pl := bpool rb lb cJ R Lk) (pl1 := bpool rb lb cJ R Lk) hP hD [0, 1, 2, 3, 4, 5, 6, 7, 8, 9, 10, 11, 12, 13, 14, 15, 16, 23, 24, 25] [17, 18, 19, 20, 21, 22, 26, 27, 28, 29, 30, 31, 32, 33, 34, 35, 36, 37, 38, 39, 40, 41, 42] rfl rfl (by decide) (by decide) hk1 hFc hP1 hD1
      have hP := hP.part (cx := (jw_ws out cJ 1 of ++ (bb_ws b0 bd0 pr0 t0 au0 da (.ref g0) ++ (rw_ws da cJ (r8 u9.1.1 u9.1.2.1 u9.1.2.2.1 u9.1.2.2.2.1 u9.1.2.2.2.2.1 u9.1.2.2.2.2.2.1 u9.1.2.2.2.2.2.2.1 u9.1.2.2.2.2.2.2.2) ++ (bd_ws bd0 h0 ro lo n cR (rrf rb) (rrf lb) ++ (pr_ws pr0 h0 cm cJ u9.2.1 ++ (hu_ws h0 aw ax ay cJ cI u9.2.2 ++ (tt_ws t0 ka aa ba sa (.ref g0) cJ T ++ (au_ws au0 bd0 pr0 tu0 sd ++ (tt_ws tu0 uka uaa uba usa gu cJ T0 ++ (gp_ws g0 mF mE P f1 k1 Q f2 k2 G ++ (mo_ws m0 e0 (nI (t_tn T)) (nI n) (nI (t_bc T)) (lN P) (lN Q) (lN G) (lN (ckey (t_tn T) (t_kc T) (t_kp T))) (lN (t_pa T)) (lN (t_pb T)) (t_sht T) a0 a1 a2 a3 a4 a5 a6 a7 a8 a9 mb0 mb1 oc mb2 mb3 mb4 mb5 ++ (iw_ws a7 cI 256 bf ++ (iw_ws a8 cI 64 sc ++ (iw_ws a9 cI 8 st ++ (iw_ws mb0 cI 8 kS ++ (iw_ws mb1 cI 64 kR ++ (jw_ws a2 cJ 4 tf ++ (jw_ws a0 cJ 1232 nf ++ (jw_ws a1 cJ 616 cf ++ (iw_ws a4 cI 4 kf ++ (jw_ws mb2 cJ 4 ky ++ (jw_ws a3 cJ 16 lf ++ (iw_ws a5 cI 4 sf ++ (iw_ws a6 cI 64 vf ++ (jw_ws mb3 cJ 128 md ++ (jw_ws mb4 cJ 4 sh ++ iw_ws mb5 cI 64 ct))))))))))))))))))))))))))) [23, 24, 25, 26, 27, 28, 29, 30, 31, 32, 33, 34, 35, 36, 37, 38, 39, 0, 1, 2, 3, 4, 5, 40, 41, 42, 6, 7, 8, 9, 10, 11, 12, 13, 14, 15, 16, 17, 18, 19, 20, 21, 22] rfl
      have hD := hD.part (cx := (jw_ws out cJ 1 of ++ (bb_ws b0 bd0 pr0 t0 au0 da (.ref g0) ++ (rw_ws da cJ (r8 u9.1.1 u9.1.2.1 u9.1.2.2.1 u9.1.2.2.2.1 u9.1.2.2.2.2.1 u9.1.2.2.2.2.2.1 u9.1.2.2.2.2.2.2.1 u9.1.2.2.2.2.2.2.2) ++ (bd_ws bd0 h0 ro lo n cR (rrf rb) (rrf lb) ++ (pr_ws pr0 h0 cm cJ u9.2.1 ++ (hu_ws h0 aw ax ay cJ cI u9.2.2 ++ (tt_ws t0 ka aa ba sa (.ref g0) cJ T ++ (au_ws au0 bd0 pr0 tu0 sd ++ (tt_ws tu0 uka uaa uba usa gu cJ T0 ++ (gp_ws g0 mF mE P f1 k1 Q f2 k2 G ++ (mo_ws m0 e0 (nI (t_tn T)) (nI n) (nI (t_bc T)) (lN P) (lN Q) (lN G) (lN (ckey (t_tn T) (t_kc T) (t_kp T))) (lN (t_pa T)) (lN (t_pb T)) (t_sht T) a0 a1 a2 a3 a4 a5 a6 a7 a8 a9 mb0 mb1 oc mb2 mb3 mb4 mb5 ++ (iw_ws a7 cI 256 bf ++ (iw_ws a8 cI 64 sc ++ (iw_ws a9 cI 8 st ++ (iw_ws mb0 cI 8 kS ++ (iw_ws mb1 cI 64 kR ++ (jw_ws a2 cJ 4 tf ++ (jw_ws a0 cJ 1232 nf ++ (jw_ws a1 cJ 616 cf ++ (iw_ws a4 cI 4 kf ++ (jw_ws mb2 cJ 4 ky ++ (jw_ws a3 cJ 16 lf ++ (iw_ws a5 cI 4 sf ++ (iw_ws a6 cI 64 vf ++ (jw_ws mb3 cJ 128 md ++ (jw_ws mb4 cJ 4 sh ++ iw_ws mb5 cI 64 ct))))))))))))))))))))))))))) [23, 24, 25, 26, 27, 28, 29, 30, 31, 32, 33, 34, 35, 36, 37, 38, 39, 0, 1, 2, 3, 4, 5, 40, 41, 42, 6, 7, 8, 9, 10, 11, 12, 13, 14, 15, 16, 17, 18, 19, 20, 21, 22] (by decide) rfl
      generalize H1 = H at hP hS ⊢
      clear hPc hDc hFc hP1 hD1 hK1 ht hk1 hz1
      have hr9 : r_9 = 2 := hw
      subst hr9
      refine lv_istore (lv' := [(5, .int 2), (4, .int (nI i)), (3, .ref out), (2, .ref m0), (1, .ref b0), (0, .ref b)]) hx hb d_law_1045 hl (by decide) rfl (fun ls hl => ?_)
      refine lv_aload_n hx hb d_law_1047 rfl (lv_at hl 3 rfl) ?_
      refine lv_aload_n hx hb d_law_1048 rfl (lv_at hl 5 rfl) ?_
      refine lv_iload hx hb d_law_1049 (lv_at hl 1 rfl) ?_
      refine lv_iconst (v := 1) hx hb d_law_1051 (by decide) ?_
      refine lv_iadd hx hb d_law_1052 ?_
      rw [show ((nI i) + 1 : Int32) = nI (i + 1) from nI_add _ 1]
      refine va_sld hx hb hX hbl hbA hS (vp_in_nI (by omega) (by omega)) d_law_1053 ?_
      rw [show (xs (nI (i + 1)).toNatClampNeg : Int32) = xs (i + 1) from by rw [nI_clamp (by omega)]]
      rw [show (xs (i + 1) : Int32) = x1 from hx1.symm]
      refine lv_aload_n hx hb d_law_1054 rfl (lv_at hl 5 rfl) ?_
      refine lv_iload hx hb d_law_1055 (lv_at hl 1 rfl) ?_
      refine lv_iconst (v := 2) hx hb d_law_1057 (by decide) ?_
      refine lv_iadd hx hb d_law_1058 ?_
      rw [show ((nI i) + 2 : Int32) = nI (i + 2) from nI_add _ 2]
      refine va_sld hx hb hX hbl hbA hS (vp_in_nI (by omega) (by omega)) d_law_1059 ?_
      rw [show (xs (nI (i + 2)).toNatClampNeg : Int32) = xs (i + 2) from by rw [nI_clamp (by omega)]]
      rw [show (xs (i + 2) : Int32) = x2 from hx2.symm]
      refine lv_if_eq (tgt := 1067) hx hb d_law_1060 (by decide) (fun c_10 => ?_) (fun c_10 => ?_)
      · -- taken
        exact absurd c_10 (by rw [hx2]; exact hx0)
      · -- not taken
        refine lv_iconst (v := 1) hx hb d_law_1063 (by decide) ?_
        refine lv_goto (tgt := 1068) hx hb d_law_1064 (by decide) ?_
        refine lv_aload_n hx hb d_law_1068 rfl (lv_at hl 5 rfl) ?_
        refine lv_iload hx hb d_law_1069 (lv_at hl 1 rfl) ?_
        refine lv_iconst (v := 3) hx hb d_law_1071 (by decide) ?_
        refine lv_iadd hx hb d_law_1072 ?_
        rw [show ((nI i) + 3 : Int32) = nI (i + 3) from nI_add _ 3]
        refine va_sld hx hb hX hbl hbA hS (vp_in_nI (by omega) (by omega)) d_law_1073 ?_
        rw [show (xs (nI (i + 3)).toNatClampNeg : Int32) = xs (i + 3) from by rw [nI_clamp (by omega)]]
        refine lv_i2l (v := (xs (i + 3) : Int32).toInt64) hx hb d_law_1074 rfl ?_
        refine lv_bipush (v := 32) hx hb d_law_1075 (by decide) ?_
        refine lv_lshl (v := ((xs (i + 3) : Int32).toInt64 : Int64) <<< ((32 : Int32).toInt64 &&& 63)) hx hb d_law_1077 rfl ?_
        refine lv_aload_n hx hb d_law_1078 rfl (lv_at hl 5 rfl) ?_
        refine lv_iload hx hb d_law_1079 (lv_at hl 1 rfl) ?_
        refine lv_iconst (v := 4) hx hb d_law_1081 (by decide) ?_
        refine lv_iadd hx hb d_law_1082 ?_
        rw [show ((nI i) + 4 : Int32) = nI (i + 4) from nI_add _ 4]
        refine va_sld hx hb hX hbl hbA hS (vp_in_nI (by omega) (by omega)) d_law_1083 ?_
        rw [show (xs (nI (i + 4)).toNatClampNeg : Int32) = xs (i + 4) from by rw [nI_clamp (by omega)]]
        refine lv_i2l (v := (xs (i + 4) : Int32).toInt64) hx hb d_law_1084 rfl ?_
        refine lv_ldc2 (v := 4294967295) hx hb hown (hts _ (List.mem_cons_of_mem _ gk_1202)) d_law_1085 ?_
        refine lv_land hx hb d_law_1088 ?_
        refine lv_lor hx hb d_law_1089 ?_
        rw [show ((((xs (i + 3) : Int32).toInt64 : Int64) <<< ((32 : Int32).toInt64 &&& 63)) ||| (((xs (i + 4) : Int32).toInt64) &&& 4294967295) : Int64) = x3 from hx3.symm]
        refine lv_aload_n hx hb d_law_1090 rfl (lv_at hl 5 rfl) ?_
        refine lv_iload hx hb d_law_1091 (lv_at hl 1 rfl) ?_
        refine lv_iconst (v := 5) hx hb d_law_1093 (by decide) ?_
        refine lv_iadd hx hb d_law_1094 ?_
        rw [show ((nI i) + 5 : Int32) = nI (i + 5) from nI_add _ 5]
        refine va_sld hx hb hX hbl hbA hS (vp_in_nI (by omega) (by omega)) d_law_1095 ?_
        rw [show (xs (nI (i + 5)).toNatClampNeg : Int32) = xs (i + 5) from by rw [nI_clamp (by omega)]]
        refine lv_i2l (v := (xs (i + 5) : Int32).toInt64) hx hb d_law_1096 rfl ?_
        refine lv_bipush (v := 32) hx hb d_law_1097 (by decide) ?_
        refine lv_lshl (v := ((xs (i + 5) : Int32).toInt64 : Int64) <<< ((32 : Int32).toInt64 &&& 63)) hx hb d_law_1099 rfl ?_
        refine lv_aload_n hx hb d_law_1100 rfl (lv_at hl 5 rfl) ?_
        refine lv_iload hx hb d_law_1101 (lv_at hl 1 rfl) ?_
        refine lv_bipush (v := 6) hx hb d_law_1103 (by decide) ?_
        refine lv_iadd hx hb d_law_1105 ?_
        rw [show ((nI i) + 6 : Int32) = nI (i + 6) from nI_add _ 6]
        refine va_sld hx hb hX hbl hbA hS (vp_in_nI (by omega) (by omega)) d_law_1106 ?_
        rw [show (xs (nI (i + 6)).toNatClampNeg : Int32) = xs (i + 6) from by rw [nI_clamp (by omega)]]
        refine lv_i2l (v := (xs (i + 6) : Int32).toInt64) hx hb d_law_1107 rfl ?_
        refine lv_ldc2 (v := 4294967295) hx hb hown (hts _ (List.mem_cons_of_mem _ gk_1202)) d_law_1108 ?_
        refine lv_land hx hb d_law_1111 ?_
        refine lv_lor hx hb d_law_1112 ?_
        rw [show ((((xs (i + 5) : Int32).toInt64 : Int64) <<< ((32 : Int32).toInt64 &&& 63)) ||| (((xs (i + 6) : Int32).toInt64) &&& 4294967295) : Int64) = x4 from hx4.symm]
        refine lv_aload_n hx hb d_law_1113 rfl (lv_at hl 5 rfl) ?_
        refine lv_iload hx hb d_law_1114 (lv_at hl 1 rfl) ?_
        refine lv_bipush (v := 7) hx hb d_law_1116 (by decide) ?_
        refine lv_iadd hx hb d_law_1118 ?_
        rw [show ((nI i) + 7 : Int32) = nI (i + 7) from nI_add _ 7]
        refine va_sld hx hb hX hbl hbA hS (vp_in_nI (by omega) (by omega)) d_law_1119 ?_
        rw [show (xs (nI (i + 7)).toNatClampNeg : Int32) = xs (i + 7) from by rw [nI_clamp (by omega)]]
        refine lv_i2l (v := (xs (i + 7) : Int32).toInt64) hx hb d_law_1120 rfl ?_
        refine lv_bipush (v := 32) hx hb d_law_1121 (by decide) ?_
        refine lv_lshl (v := ((xs (i + 7) : Int32).toInt64 : Int64) <<< ((32 : Int32).toInt64 &&& 63)) hx hb d_law_1123 rfl ?_
        refine lv_aload_n hx hb d_law_1124 rfl (lv_at hl 5 rfl) ?_
        refine lv_iload hx hb d_law_1125 (lv_at hl 1 rfl) ?_
        refine lv_bipush (v := 8) hx hb d_law_1127 (by decide) ?_
        refine lv_iadd hx hb d_law_1129 ?_
        rw [show ((nI i) + 8 : Int32) = nI (i + 8) from nI_add _ 8]
        refine va_sld hx hb hX hbl hbA hS (vp_in_nI (by omega) (by omega)) d_law_1130 ?_
        rw [show (xs (nI (i + 8)).toNatClampNeg : Int32) = xs (i + 8) from by rw [nI_clamp (by omega)]]
        refine lv_i2l (v := (xs (i + 8) : Int32).toInt64) hx hb d_law_1131 rfl ?_
        refine lv_ldc2 (v := 4294967295) hx hb hown (hts _ (List.mem_cons_of_mem _ gk_1202)) d_law_1132 ?_
        refine lv_land hx hb d_law_1135 ?_
        refine lv_lor hx hb d_law_1136 ?_
        rw [show ((((xs (i + 7) : Int32).toInt64 : Int64) <<< ((32 : Int32).toInt64 &&& 63)) ||| (((xs (i + 8) : Int32).toInt64) &&& 4294967295) : Int64) = x5 from hx5.symm]
        refine lv_aload_n hx hb d_law_1137 rfl (lv_at hl 5 rfl) ?_
        refine lv_iload hx hb d_law_1138 (lv_at hl 1 rfl) ?_
        refine lv_bipush (v := 9) hx hb d_law_1140 (by decide) ?_
        refine lv_iadd hx hb d_law_1142 ?_
        rw [show ((nI i) + 9 : Int32) = nI (i + 9) from nI_add _ 9]
        refine va_sld hx hb hX hbl hbA hS (vp_in_nI (by omega) (by omega)) d_law_1143 ?_
        rw [show (xs (nI (i + 9)).toNatClampNeg : Int32) = xs (i + 9) from by rw [nI_clamp (by omega)]]
        refine lv_i2l (v := (xs (i + 9) : Int32).toInt64) hx hb d_law_1144 rfl ?_
        refine lv_bipush (v := 32) hx hb d_law_1145 (by decide) ?_
        refine lv_lshl (v := ((xs (i + 9) : Int32).toInt64 : Int64) <<< ((32 : Int32).toInt64 &&& 63)) hx hb d_law_1147 rfl ?_
        refine lv_aload_n hx hb d_law_1148 rfl (lv_at hl 5 rfl) ?_
        refine lv_iload hx hb d_law_1149 (lv_at hl 1 rfl) ?_
        refine lv_bipush (v := 10) hx hb d_law_1151 (by decide) ?_
        refine lv_iadd hx hb d_law_1153 ?_
        rw [show ((nI i) + 10 : Int32) = nI (i + 10) from nI_add _ 10]
        refine va_sld hx hb hX hbl hbA hS (vp_in_nI (by omega) (by omega)) d_law_1154 ?_
        rw [show (xs (nI (i + 10)).toNatClampNeg : Int32) = xs (i + 10) from by rw [nI_clamp (by omega)]]
        refine lv_i2l (v := (xs (i + 10) : Int32).toInt64) hx hb d_law_1155 rfl ?_
        refine lv_ldc2 (v := 4294967295) hx hb hown (hts _ (List.mem_cons_of_mem _ gk_1202)) d_law_1156 ?_
        refine lv_land hx hb d_law_1159 ?_
        refine lv_lor hx hb d_law_1160 ?_
        rw [show ((((xs (i + 9) : Int32).toInt64 : Int64) <<< ((32 : Int32).toInt64 &&& 63)) ||| (((xs (i + 10) : Int32).toInt64) &&& 4294967295) : Int64) = x6 from hx6.symm]
        have hPc := hP.sub (ws' := (mo_ws m0 e0 (nI (t_tn T)) (nI n) (nI (t_bc T)) (lN P) (lN Q) (lN G) (lN (ckey (t_tn T) (t_kc T) (t_kp T))) (lN (t_pa T)) (lN (t_pb T)) (t_sht T) a0 a1 a2 a3 a4 a5 a6 a7 a8 a9 mb0 mb1 oc mb2 mb3 mb4 mb5 ++ (iw_ws a7 cI 256 bf ++ (iw_ws a8 cI 64 sc ++ (iw_ws a9 cI 8 st ++ (iw_ws mb0 cI 8 kS ++ (iw_ws mb1 cI 64 kR ++ (jw_ws a2 cJ 4 tf ++ (jw_ws a0 cJ 1232 nf ++ (jw_ws a1 cJ 616 cf ++ (iw_ws a6 cI 64 vf ++ (jw_ws mb3 cJ 128 md ++ (iw_ws a4 cI 4 kf ++ jw_ws a3 cJ 16 lf))))))))))))) [26, 27, 28, 29, 30, 31, 32, 33, 34, 39, 40, 35, 37] rfl
        have hDc := hD.sub (ws' := (mo_ws m0 e0 (nI (t_tn T)) (nI n) (nI (t_bc T)) (lN P) (lN Q) (lN G) (lN (ckey (t_tn T) (t_kc T) (t_kp T))) (lN (t_pa T)) (lN (t_pb T)) (t_sht T) a0 a1 a2 a3 a4 a5 a6 a7 a8 a9 mb0 mb1 oc mb2 mb3 mb4 mb5 ++ (iw_ws a7 cI 256 bf ++ (iw_ws a8 cI 64 sc ++ (iw_ws a9 cI 8 st ++ (iw_ws mb0 cI 8 kS ++ (iw_ws mb1 cI 64 kR ++ (jw_ws a2 cJ 4 tf ++ (jw_ws a0 cJ 1232 nf ++ (jw_ws a1 cJ 616 cf ++ (iw_ws a6 cI 64 vf ++ (jw_ws mb3 cJ 128 md ++ (iw_ws a4 cI 4 kf ++ jw_ws a3 cJ 16 lf))))))))))))) [26, 27, 28, 29, 30, 31, 32, 33, 34, 39, 40, 35, 37] (by decide) rfl
        have hKc := hK.sub (tys' := [(cJ, .long), (cI, .int)]) [0, 1] rfl
        have hFc := va_free (wc := (mo_ws m0 e0 (nI (t_tn T)) (nI n) (nI (t_bc T)) (lN P) (lN Q) (lN G) (lN (ckey (t_tn T) (t_kc T) (t_kp T))) (lN (t_pa T)) (lN (t_pb T)) (t_sht T) a0 a1 a2 a3 a4 a5 a6 a7 a8 a9 mb0 mb1 oc mb2 mb3 mb4 mb5 ++ (iw_ws a7 cI 256 bf ++ (iw_ws a8 cI 64 sc ++ (iw_ws a9 cI 8 st ++ (iw_ws mb0 cI 8 kS ++ (iw_ws mb1 cI 64 kR ++ (jw_ws a2 cJ 4 tf ++ (jw_ws a0 cJ 1232 nf ++ (jw_ws a1 cJ 616 cf ++ (iw_ws a6 cI 64 vf ++ (jw_ws mb3 cJ 128 md ++ (iw_ws a4 cI 4 kf ++ jw_ws a3 cJ 16 lf))))))))))))) hD hS hA [26, 27, 28, 29, 30, 31, 32, 33, 34, 39, 40, 35, 37] rfl
        refine va_calli (va_runV (As := [.int x1, .int 1, .long x3, .long x4, .long x5, .long x6]) (rest := []) ⟨hx, hb, hml, hown, hts⟩ (c_Bm_makeBallot_2 l dC dI cJ cI H.size m0 e0 (t_tn T) n (t_bc T) P Q G (ckey (t_tn T) (t_kc T) (t_kp T)) (t_pa T) (t_pb T) (t_sht T) a0 a1 a2 a3 a4 a5 a6 a7 a8 a9 mb0 mb1 oc mb2 mb3 mb4 mb5 bf sc st vf kf tf nf cf md lf (t_ko T) (t_ao T) ky (fun i => lN (t_ao T i)) x1 1 x3 x4 x5 x6 htn hgr hn hsh0 hrk hrb hal (fun q => hC1 ((bC1_iff hRT).mpr q)) hn9) (cwV 6 hts (gw_V gk_1141 gk_1142 gk_1143 gk_7 gk_1144) rfl rfl rfl (by decide +kernel) ⟨(Nat.le_of_ble_eq_true rfl), (Nat.le_of_ble_eq_true rfl)⟩) ⟨fun a U g mk q => by obtain ⟨q0, q1, qP, qK, qD⟩ := q; exact ⟨q0, q1, qP, va_K.moved (u := U) (U := U.calling g mk a) (Vm.Alike.refl U.vm) qK, qD⟩, va_recv hK hP (ci := 8) (q0 := 26) rfl rfl, fun U hU hW => ⟨rfl, by rw [hU], by rw [hU]; exact hPc, va_K.moved hW.alike hKc, hDc.weaken (fun _ _ _ _ => trivial)⟩⟩ rfl rfl hl.1 rfl (lv_room (Nat.le_of_ble_eq_true rfl)) d_law_1161 ⟨show cells + 8 + 0 ≤ 601024 by omega, show slots + 48 + 0 ≤ 7293034 by omega⟩) hS (fun q _ h => hFc q h) hFc (fun r_11 v9 t9 H1 locs ht hvm hw hB hz1 hk1 hS => ?_)
        obtain ⟨hP1, hK1, hD1⟩ := hB
        rw [ht] at hP1
        obtain ⟨hP, hD⟩ := va_joinQ (X := (jw_ws out cJ 1 of ++ (bb_ws b0 bd0 pr0 t0 au0 da (.ref g0) ++ (rw_ws da cJ (r8 u9.1.1 u9.1.2.1 u9.1.2.2.1 u9.1.2.2.2.1 u9.1.2.2.2.2.1 u9.1.2.2.2.2.2.1 u9.1.2.2.2.2.2.2.1 u9.1.2.2.2.2.2.2.2) ++ (bd_ws bd0 h0 ro lo n cR (rrf rb) (rrf lb) ++ (pr_ws pr0 h0 cm cJ u9.2.1 ++ (hu_ws h0 aw ax ay cJ cI u9.2.2 ++ (tt_ws t0 ka aa ba sa (.ref g0) cJ T ++ (au_ws au0 bd0 pr0 tu0 sd ++ (tt_ws tu0 uka uaa uba usa gu cJ T0 ++ (gp_ws g0 mF mE P f1 k1 Q f2 k2 G ++ (mo_ws m0 e0 (nI (t_tn T)) (nI n) (nI (t_bc T)) (lN P) (lN Q) (lN G) (lN (ckey (t_tn T) (t_kc T) (t_kp T))) (lN (t_pa T)) (lN (t_pb T)) (t_sht T) a0 a1 a2 a3 a4 a5 a6 a7 a8 a9 mb0 mb1 oc mb2 mb3 mb4 mb5 ++ (iw_ws a7 cI 256 bf ++ (iw_ws a8 cI 64 sc ++ (iw_ws a9 cI 8 st ++ (iw_ws mb0 cI 8 kS ++ (iw_ws mb1 cI 64 kR ++ (jw_ws a2 cJ 4 tf ++ (jw_ws a0 cJ 1232 nf ++ (jw_ws a1 cJ 616 cf ++ (iw_ws a4 cI 4 kf ++ (jw_ws mb2 cJ 4 ky ++ (jw_ws a3 cJ 16 lf ++ (iw_ws a5 cI 4 sf ++ (iw_ws a6 cI 64 vf ++ (jw_ws mb3 cJ 128 md ++ (jw_ws mb4 cJ 4 sh ++ iw_ws mb5 cI 64 ct))))))))))))))))))))))))))) (cx := (mo_ws m0 e0 (nI (t_tn T)) (nI n) (nI (t_bc T)) (lN P) (lN Q) (lN G) (lN (ckey (t_tn T) (t_kc T) (t_kp T))) (lN (t_pa T)) (lN (t_pb T)) (t_sht T) a0 a1 a2 a3 a4 a5 a6 a7 a8 a9 mb0 mb1 oc mb2 mb3 mb4 mb5 ++ (iw_ws a7 cI 256 bf ++ (iw_ws a8 cI 64 sc ++ (iw_ws a9 cI 8 st ++ (iw_ws mb0 cI 8 kS ++ (iw_ws mb1 cI 64 kR ++ (jw_ws a2 cJ 4 tf ++ (jw_ws a0 cJ 1232 nf ++ (jw_ws a1 cJ 616 cf ++ (iw_ws a6 cI 64 vf ++ (jw_ws mb3 cJ 128 md ++ (iw_ws a4 cI 4 kf ++ jw_ws a3 cJ 16 lf))))))))))))) (wr := (jw_ws out cJ 1 of ++ (bb_ws b0 bd0 pr0 t0 au0 da (.ref g0) ++ (rw_ws da cJ (r8 u9.1.1 u9.1.2.1 u9.1.2.2.1 u9.1.2.2.2.1 u9.1.2.2.2.2.1 u9.1.2.2.2.2.2.1 u9.1.2.2.2.2.2.2.1 u9.1.2.2.2.2.2.2.2) ++ (bd_ws bd0 h0 ro lo n cR (rrf rb) (rrf lb) ++ (pr_ws pr0 h0 cm cJ u9.2.1 ++ (hu_ws h0 aw ax ay cJ cI u9.2.2 ++ (tt_ws t0 ka aa ba sa (.ref g0) cJ T ++ (au_ws au0 bd0 pr0 tu0 sd ++ (tt_ws tu0 uka uaa uba usa gu cJ T0 ++ (gp_ws g0 mF mE P f1 k1 Q f2 k2 G ++ (jw_ws mb2 cJ 4 ky ++ (iw_ws a5 cI 4 sf ++ (jw_ws mb4 cJ 4 sh ++ iw_ws mb5 cI 64 ct)))))))))))))) (w1 := (mo_ws m0 2 (nI (t_tn T)) (nI n) (nI (t_bc T)) (lN P) (lN Q) (lN G) (lN (ckey (t_tn T) (t_kc T) (t_kp T))) (lN (t_pa T)) (lN (t_pb T)) (t_sht T) a0 a1 a2 a3 a4 a5 a6 a7 a8 a9 mb0 mb1 oc mb2 mb3 mb4 mb5 ++ (iw_ws a7 cI 256 bf ++ (iw_ws a8 cI 64 sc ++ (iw_ws a9 cI 8 st ++ (iw_ws mb0 cI 8 kS ++ (iw_ws mb1 cI 64 kR ++ (jw_ws a2 cJ 4 tf ++ (jw_ws a0 cJ 1232 nf ++ (jw_ws a1 cJ 616 cf ++ (iw_ws a6 cI 64 vf ++ (jw_ws mb3 cJ 128 md ++ (iw_ws a4 cI 4 kf ++ jw_ws a3 cJ 16 lf))))))))))))) (pl := bpool rb lb cJ R Lk) hP hD [26, 27, 28, 29, 30, 31, 32, 33, 34, 39, 40, 35, 37] [0, 1, 2, 3, 4, 5, 6, 7, 8, 9, 10, 11, 12, 13, 14, 15, 16, 17, 18, 19, 20, 21, 22, 23, 24, 25, 36, 38, 41, 42] rfl rfl (by decide) (by decide) hk1 hFc hP1 hD1
        have hP := hP.part (cx := (jw_ws out cJ 1 of ++ (bb_ws b0 bd0 pr0 t0 au0 da (.ref g0) ++ (rw_ws da cJ (r8 u9.1.1 u9.1.2.1 u9.1.2.2.1 u9.1.2.2.2.1 u9.1.2.2.2.2.1 u9.1.2.2.2.2.2.1 u9.1.2.2.2.2.2.2.1 u9.1.2.2.2.2.2.2.2) ++ (bd_ws bd0 h0 ro lo n cR (rrf rb) (rrf lb) ++ (pr_ws pr0 h0 cm cJ u9.2.1 ++ (hu_ws h0 aw ax ay cJ cI u9.2.2 ++ (tt_ws t0 ka aa ba sa (.ref g0) cJ T ++ (au_ws au0 bd0 pr0 tu0 sd ++ (tt_ws tu0 uka uaa uba usa gu cJ T0 ++ (gp_ws g0 mF mE P f1 k1 Q f2 k2 G ++ (mo_ws m0 2 (nI (t_tn T)) (nI n) (nI (t_bc T)) (lN P) (lN Q) (lN G) (lN (ckey (t_tn T) (t_kc T) (t_kp T))) (lN (t_pa T)) (lN (t_pb T)) (t_sht T) a0 a1 a2 a3 a4 a5 a6 a7 a8 a9 mb0 mb1 oc mb2 mb3 mb4 mb5 ++ (iw_ws a7 cI 256 bf ++ (iw_ws a8 cI 64 sc ++ (iw_ws a9 cI 8 st ++ (iw_ws mb0 cI 8 kS ++ (iw_ws mb1 cI 64 kR ++ (jw_ws a2 cJ 4 tf ++ (jw_ws a0 cJ 1232 nf ++ (jw_ws a1 cJ 616 cf ++ (iw_ws a4 cI 4 kf ++ (jw_ws mb2 cJ 4 ky ++ (jw_ws a3 cJ 16 lf ++ (iw_ws a5 cI 4 sf ++ (iw_ws a6 cI 64 vf ++ (jw_ws mb3 cJ 128 md ++ (jw_ws mb4 cJ 4 sh ++ iw_ws mb5 cI 64 ct))))))))))))))))))))))))))) [0, 1, 2, 3, 4, 5, 6, 7, 8, 9, 10, 11, 12, 13, 14, 15, 16, 17, 18, 19, 20, 21, 22, 23, 24, 25, 30, 31, 32, 33, 34, 35, 36, 37, 38, 41, 26, 42, 27, 39, 40, 28, 29] rfl
        have hD := hD.part (cx := (jw_ws out cJ 1 of ++ (bb_ws b0 bd0 pr0 t0 au0 da (.ref g0) ++ (rw_ws da cJ (r8 u9.1.1 u9.1.2.1 u9.1.2.2.1 u9.1.2.2.2.1 u9.1.2.2.2.2.1 u9.1.2.2.2.2.2.1 u9.1.2.2.2.2.2.2.1 u9.1.2.2.2.2.2.2.2) ++ (bd_ws bd0 h0 ro lo n cR (rrf rb) (rrf lb) ++ (pr_ws pr0 h0 cm cJ u9.2.1 ++ (hu_ws h0 aw ax ay cJ cI u9.2.2 ++ (tt_ws t0 ka aa ba sa (.ref g0) cJ T ++ (au_ws au0 bd0 pr0 tu0 sd ++ (tt_ws tu0 uka uaa uba usa gu cJ T0 ++ (gp_ws g0 mF mE P f1 k1 Q f2 k2 G ++ (mo_ws m0 2 (nI (t_tn T)) (nI n) (nI (t_bc T)) (lN P) (lN Q) (lN G) (lN (ckey (t_tn T) (t_kc T) (t_kp T))) (lN (t_pa T)) (lN (t_pb T)) (t_sht T) a0 a1 a2 a3 a4 a5 a6 a7 a8 a9 mb0 mb1 oc mb2 mb3 mb4 mb5 ++ (iw_ws a7 cI 256 bf ++ (iw_ws a8 cI 64 sc ++ (iw_ws a9 cI 8 st ++ (iw_ws mb0 cI 8 kS ++ (iw_ws mb1 cI 64 kR ++ (jw_ws a2 cJ 4 tf ++ (jw_ws a0 cJ 1232 nf ++ (jw_ws a1 cJ 616 cf ++ (iw_ws a4 cI 4 kf ++ (jw_ws mb2 cJ 4 ky ++ (jw_ws a3 cJ 16 lf ++ (iw_ws a5 cI 4 sf ++ (iw_ws a6 cI 64 vf ++ (jw_ws mb3 cJ 128 md ++ (jw_ws mb4 cJ 4 sh ++ iw_ws mb5 cI 64 ct))))))))))))))))))))))))))) [0, 1, 2, 3, 4, 5, 6, 7, 8, 9, 10, 11, 12, 13, 14, 15, 16, 17, 18, 19, 20, 21, 22, 23, 24, 25, 30, 31, 32, 33, 34, 35, 36, 37, 38, 41, 26, 42, 27, 39, 40, 28, 29] (by decide) rfl
        generalize H1 = H at hP hS ⊢
        clear hPc hDc hFc hP1 hD1 hK1 ht hk1 hz1
        refine lv_istore (lv' := [(6, .int r_11), (5, .int 2), (4, .int (nI i)), (3, .ref out), (2, .ref m0), (1, .ref b0), (0, .ref b)]) hx hb d_law_1164 hl (by decide) rfl (fun ls hl => ?_)
        refine lv_aload_n hx hb d_law_1166 rfl (lv_at hl 4 rfl) ?_
        have hPc := hP.sub (ws' := (mo_ws m0 2 (nI (t_tn T)) (nI n) (nI (t_bc T)) (lN P) (lN Q) (lN G) (lN (ckey (t_tn T) (t_kc T) (t_kp T))) (lN (t_pa T)) (lN (t_pb T)) (t_sht T) a0 a1 a2 a3 a4 a5 a6 a7 a8 a9 mb0 mb1 oc mb2 mb3 mb4 mb5)) [26] rfl
        have hKc := hK.sub (tys' := [(cJ, .long), (cI, .int)]) [0, 1] rfl
        refine va_calli (va_runV (As := []) (rest := []) ⟨hx, hb, hml, hown, hts⟩ (c_Bm_thrown l H dC dI cJ cI m0 2 (nI (t_tn T)) (nI n) (nI (t_bc T)) (lN P) (lN Q) (lN G) (lN (ckey (t_tn T) (t_kc T) (t_kp T))) (lN (t_pa T)) (lN (t_pb T)) (t_sht T) a0 a1 a2 a3 a4 a5 a6 a7 a8 a9 mb0 mb1 oc mb2 mb3 mb4 mb5 hPc) (cwV 0 hts (gw_V gk_1004 gk_1005 gk_1006 gk_7 gk_1007) rfl rfl rfl (by decide +kernel) ⟨(Nat.le_of_ble_eq_true rfl), (Nat.le_of_ble_eq_true rfl)⟩) ⟨fun a U g mk q => ⟨q.1, q.2.1, va_K.moved (u := U) (U := U.calling g mk a) (Vm.Alike.refl U.vm) q.2.2⟩, va_recv hK hP (ci := 8) (q0 := 26) rfl rfl, fun U hU hW => ⟨rfl, hU, va_K.moved hW.alike hKc⟩⟩ rfl rfl hl.1 rfl (lv_room (Nat.le_of_ble_eq_true rfl)) d_law_1167 ⟨show cells + 8 + 0 + 0 ≤ 601024 by omega, show slots + 48 + 0 + 0 ≤ 7293034 by omega⟩) hS (fun q _ h => h.elim) (fun q h => h.elim) (fun r_12 w9 t9 H1 locs ht hvm hw9 hB hz1 hk1 hS => ?_)
        obtain rfl : H = H1 := hB.symm.trans ht
        have hw9 : r_12 = 2 := hw9
        subst hw9
        clear hPc hz1 hk1 hB
        refine lv_iload hx hb d_law_1170 (lv_at hl 1 rfl) ?_
        refine lv_icmp_eq (tgt := 1177) hx hb d_law_1172 (by decide) (fun c_13 => ?_) (fun c_13 => ?_)
        · -- taken
          refine lv_iload hx hb d_law_1177 (lv_at hl 1 rfl) ?_
          refine lv_if_ne (tgt := 1194) hx hb d_law_1179 (by decide) (fun c_14 => ?_) (fun c_14 => ?_)
          · -- taken
            refine lv_goto (tgt := 1965) hx hb d_law_1194 (by decide) ?_
            refine W.widen (k := cells + 20) (n := slots + 200) (by omega) (by omega) ?_
            have hI9 : LI dC dI cJ cI cR A out b0 m0 H := LG.mk hP hD hR
            exact cont _ _ _ hS hI9 (lv_sub hl [2, 3, 4, 5, 6] rfl)
          · -- not taken
            exact absurd c_14 (by decide)
        · -- not taken
          exact absurd c_13 (by decide)
  by_cases hC3 : bC3m Q x1 x3 x4 x5 x6
  · -- it holds
    refine lv_aload_n hx hb d_law_927 rfl (lv_at hl 3 rfl) ?_
    refine lv_aload_n hx hb d_law_928 rfl (lv_at hl 4 rfl) ?_
    refine lv_iload hx hb d_law_929 (lv_at hl 0 rfl) ?_
    refine lv_iconst (v := 1) hx hb d_law_931 (by decide) ?_
    refine lv_iadd hx hb d_law_932 ?_
    rw [show ((nI i) + 1 : Int32) = nI (i + 1) from nI_add _ 1]
    refine va_sld hx hb hX hbl hbA hS (vp_in_nI (by omega) (by omega)) d_law_933 ?_
    rw [show (xs (nI (i + 1)).toNatClampNeg : Int32) = xs (i + 1) from by rw [nI_clamp (by omega)]]
    rw [show (xs (i + 1) : Int32) = x1 from hx1.symm]
    refine lv_aload_n hx hb d_law_934 rfl (lv_at hl 4 rfl) ?_
    refine lv_iload hx hb d_law_935 (lv_at hl 0 rfl) ?_
    refine lv_iconst (v := 2) hx hb d_law_937 (by decide) ?_
    refine lv_iadd hx hb d_law_938 ?_
    rw [show ((nI i) + 2 : Int32) = nI (i + 2) from nI_add _ 2]
    refine va_sld hx hb hX hbl hbA hS (vp_in_nI (by omega) (by omega)) d_law_939 ?_
    rw [show (xs (nI (i + 2)).toNatClampNeg : Int32) = xs (i + 2) from by rw [nI_clamp (by omega)]]
    rw [show (xs (i + 2) : Int32) = x2 from hx2.symm]
    refine lv_if_eq (tgt := 947) hx hb d_law_940 (by decide) (fun c_15 => ?_) (fun c_15 => ?_)
    · -- taken
      exact absurd c_15 (by rw [hx2]; exact hx0)
    · -- not taken
      refine lv_iconst (v := 1) hx hb d_law_943 (by decide) ?_
      refine lv_goto (tgt := 948) hx hb d_law_944 (by decide) ?_
      refine lv_aload_n hx hb d_law_948 rfl (lv_at hl 4 rfl) ?_
      refine lv_iload hx hb d_law_949 (lv_at hl 0 rfl) ?_
      refine lv_iconst (v := 3) hx hb d_law_951 (by decide) ?_
      refine lv_iadd hx hb d_law_952 ?_
      rw [show ((nI i) + 3 : Int32) = nI (i + 3) from nI_add _ 3]
      refine va_sld hx hb hX hbl hbA hS (vp_in_nI (by omega) (by omega)) d_law_953 ?_
      rw [show (xs (nI (i + 3)).toNatClampNeg : Int32) = xs (i + 3) from by rw [nI_clamp (by omega)]]
      refine lv_i2l (v := (xs (i + 3) : Int32).toInt64) hx hb d_law_954 rfl ?_
      refine lv_bipush (v := 32) hx hb d_law_955 (by decide) ?_
      refine lv_lshl (v := ((xs (i + 3) : Int32).toInt64 : Int64) <<< ((32 : Int32).toInt64 &&& 63)) hx hb d_law_957 rfl ?_
      refine lv_aload_n hx hb d_law_958 rfl (lv_at hl 4 rfl) ?_
      refine lv_iload hx hb d_law_959 (lv_at hl 0 rfl) ?_
      refine lv_iconst (v := 4) hx hb d_law_961 (by decide) ?_
      refine lv_iadd hx hb d_law_962 ?_
      rw [show ((nI i) + 4 : Int32) = nI (i + 4) from nI_add _ 4]
      refine va_sld hx hb hX hbl hbA hS (vp_in_nI (by omega) (by omega)) d_law_963 ?_
      rw [show (xs (nI (i + 4)).toNatClampNeg : Int32) = xs (i + 4) from by rw [nI_clamp (by omega)]]
      refine lv_i2l (v := (xs (i + 4) : Int32).toInt64) hx hb d_law_964 rfl ?_
      refine lv_ldc2 (v := 4294967295) hx hb hown (hts _ (List.mem_cons_of_mem _ gk_1202)) d_law_965 ?_
      refine lv_land hx hb d_law_968 ?_
      refine lv_lor hx hb d_law_969 ?_
      rw [show ((((xs (i + 3) : Int32).toInt64 : Int64) <<< ((32 : Int32).toInt64 &&& 63)) ||| (((xs (i + 4) : Int32).toInt64) &&& 4294967295) : Int64) = x3 from hx3.symm]
      refine lv_aload_n hx hb d_law_970 rfl (lv_at hl 4 rfl) ?_
      refine lv_iload hx hb d_law_971 (lv_at hl 0 rfl) ?_
      refine lv_iconst (v := 5) hx hb d_law_973 (by decide) ?_
      refine lv_iadd hx hb d_law_974 ?_
      rw [show ((nI i) + 5 : Int32) = nI (i + 5) from nI_add _ 5]
      refine va_sld hx hb hX hbl hbA hS (vp_in_nI (by omega) (by omega)) d_law_975 ?_
      rw [show (xs (nI (i + 5)).toNatClampNeg : Int32) = xs (i + 5) from by rw [nI_clamp (by omega)]]
      refine lv_i2l (v := (xs (i + 5) : Int32).toInt64) hx hb d_law_976 rfl ?_
      refine lv_bipush (v := 32) hx hb d_law_977 (by decide) ?_
      refine lv_lshl (v := ((xs (i + 5) : Int32).toInt64 : Int64) <<< ((32 : Int32).toInt64 &&& 63)) hx hb d_law_979 rfl ?_
      refine lv_aload_n hx hb d_law_980 rfl (lv_at hl 4 rfl) ?_
      refine lv_iload hx hb d_law_981 (lv_at hl 0 rfl) ?_
      refine lv_bipush (v := 6) hx hb d_law_983 (by decide) ?_
      refine lv_iadd hx hb d_law_985 ?_
      rw [show ((nI i) + 6 : Int32) = nI (i + 6) from nI_add _ 6]
      refine va_sld hx hb hX hbl hbA hS (vp_in_nI (by omega) (by omega)) d_law_986 ?_
      rw [show (xs (nI (i + 6)).toNatClampNeg : Int32) = xs (i + 6) from by rw [nI_clamp (by omega)]]
      refine lv_i2l (v := (xs (i + 6) : Int32).toInt64) hx hb d_law_987 rfl ?_
      refine lv_ldc2 (v := 4294967295) hx hb hown (hts _ (List.mem_cons_of_mem _ gk_1202)) d_law_988 ?_
      refine lv_land hx hb d_law_991 ?_
      refine lv_lor hx hb d_law_992 ?_
      rw [show ((((xs (i + 5) : Int32).toInt64 : Int64) <<< ((32 : Int32).toInt64 &&& 63)) ||| (((xs (i + 6) : Int32).toInt64) &&& 4294967295) : Int64) = x4 from hx4.symm]
      refine lv_aload_n hx hb d_law_993 rfl (lv_at hl 4 rfl) ?_
      refine lv_iload hx hb d_law_994 (lv_at hl 0 rfl) ?_
      refine lv_bipush (v := 7) hx hb d_law_996 (by decide) ?_
      refine lv_iadd hx hb d_law_998 ?_
      rw [show ((nI i) + 7 : Int32) = nI (i + 7) from nI_add _ 7]
      refine va_sld hx hb hX hbl hbA hS (vp_in_nI (by omega) (by omega)) d_law_999 ?_
      rw [show (xs (nI (i + 7)).toNatClampNeg : Int32) = xs (i + 7) from by rw [nI_clamp (by omega)]]
      refine lv_i2l (v := (xs (i + 7) : Int32).toInt64) hx hb d_law_1000 rfl ?_
      refine lv_bipush (v := 32) hx hb d_law_1001 (by decide) ?_
      refine lv_lshl (v := ((xs (i + 7) : Int32).toInt64 : Int64) <<< ((32 : Int32).toInt64 &&& 63)) hx hb d_law_1003 rfl ?_
      refine lv_aload_n hx hb d_law_1004 rfl (lv_at hl 4 rfl) ?_
      refine lv_iload hx hb d_law_1005 (lv_at hl 0 rfl) ?_
      refine lv_bipush (v := 8) hx hb d_law_1007 (by decide) ?_
      refine lv_iadd hx hb d_law_1009 ?_
      rw [show ((nI i) + 8 : Int32) = nI (i + 8) from nI_add _ 8]
      refine va_sld hx hb hX hbl hbA hS (vp_in_nI (by omega) (by omega)) d_law_1010 ?_
      rw [show (xs (nI (i + 8)).toNatClampNeg : Int32) = xs (i + 8) from by rw [nI_clamp (by omega)]]
      refine lv_i2l (v := (xs (i + 8) : Int32).toInt64) hx hb d_law_1011 rfl ?_
      refine lv_ldc2 (v := 4294967295) hx hb hown (hts _ (List.mem_cons_of_mem _ gk_1202)) d_law_1012 ?_
      refine lv_land hx hb d_law_1015 ?_
      refine lv_lor hx hb d_law_1016 ?_
      rw [show ((((xs (i + 7) : Int32).toInt64 : Int64) <<< ((32 : Int32).toInt64 &&& 63)) ||| (((xs (i + 8) : Int32).toInt64) &&& 4294967295) : Int64) = x5 from hx5.symm]
      refine lv_aload_n hx hb d_law_1017 rfl (lv_at hl 4 rfl) ?_
      refine lv_iload hx hb d_law_1018 (lv_at hl 0 rfl) ?_
      refine lv_bipush (v := 9) hx hb d_law_1020 (by decide) ?_
      refine lv_iadd hx hb d_law_1022 ?_
      rw [show ((nI i) + 9 : Int32) = nI (i + 9) from nI_add _ 9]
      refine va_sld hx hb hX hbl hbA hS (vp_in_nI (by omega) (by omega)) d_law_1023 ?_
      rw [show (xs (nI (i + 9)).toNatClampNeg : Int32) = xs (i + 9) from by rw [nI_clamp (by omega)]]
      refine lv_i2l (v := (xs (i + 9) : Int32).toInt64) hx hb d_law_1024 rfl ?_
      refine lv_bipush (v := 32) hx hb d_law_1025 (by decide) ?_
      refine lv_lshl (v := ((xs (i + 9) : Int32).toInt64 : Int64) <<< ((32 : Int32).toInt64 &&& 63)) hx hb d_law_1027 rfl ?_
      refine lv_aload_n hx hb d_law_1028 rfl (lv_at hl 4 rfl) ?_
      refine lv_iload hx hb d_law_1029 (lv_at hl 0 rfl) ?_
      refine lv_bipush (v := 10) hx hb d_law_1031 (by decide) ?_
      refine lv_iadd hx hb d_law_1033 ?_
      rw [show ((nI i) + 10 : Int32) = nI (i + 10) from nI_add _ 10]
      refine va_sld hx hb hX hbl hbA hS (vp_in_nI (by omega) (by omega)) d_law_1034 ?_
      rw [show (xs (nI (i + 10)).toNatClampNeg : Int32) = xs (i + 10) from by rw [nI_clamp (by omega)]]
      refine lv_i2l (v := (xs (i + 10) : Int32).toInt64) hx hb d_law_1035 rfl ?_
      refine lv_ldc2 (v := 4294967295) hx hb hown (hts _ (List.mem_cons_of_mem _ gk_1202)) d_law_1036 ?_
      refine lv_land hx hb d_law_1039 ?_
      refine lv_lor hx hb d_law_1040 ?_
      rw [show ((((xs (i + 9) : Int32).toInt64 : Int64) <<< ((32 : Int32).toInt64 &&& 63)) ||| (((xs (i + 10) : Int32).toInt64) &&& 4294967295) : Int64) = x6 from hx6.symm]
      refine lv_aload_n hx hb d_law_1041 rfl (lv_at hl 1 rfl) ?_
      have hPc := hP.part (cx := (jw_ws out cJ 1 of ++ (bb_ws b0 bd0 pr0 t0 au0 da (.ref g0) ++ (rw_ws da cJ (r8 d0 d1 d2 d3 d4 d5 d6 d7) ++ (bd_ws bd0 h0 ro lo n cR (rrf rb) (rrf lb) ++ (pr_ws pr0 h0 cm cJ ccf ++ (ha_ws h0 aw ax ay cJ cI w csc cst cL ++ (tt_ws t0 ka aa ba sa (.ref g0) cJ T ++ gp_ws g0 mF mE P f1 k1 Q f2 k2 G)))))))) [0, 1, 2, 3, 4, 5, 6, 7, 8, 9, 10, 11, 12, 13, 14, 15, 16, 23, 24, 25] rfl
      have hDc := hD.part (cx := (jw_ws out cJ 1 of ++ (bb_ws b0 bd0 pr0 t0 au0 da (.ref g0) ++ (rw_ws da cJ (r8 d0 d1 d2 d3 d4 d5 d6 d7) ++ (bd_ws bd0 h0 ro lo n cR (rrf rb) (rrf lb) ++ (pr_ws pr0 h0 cm cJ ccf ++ (ha_ws h0 aw ax ay cJ cI w csc cst cL ++ (tt_ws t0 ka aa ba sa (.ref g0) cJ T ++ gp_ws g0 mF mE P f1 k1 Q f2 k2 G)))))))) [0, 1, 2, 3, 4, 5, 6, 7, 8, 9, 10, 11, 12, 13, 14, 15, 16, 23, 24, 25] (by decide) rfl
      have hKc := hK.sub (tys' := [(cJ, .long), (cI, .int), (cR, .array .long)]) [0, 1, 2] rfl
      have hFc := va_freeP (cx := (jw_ws out cJ 1 of ++ (bb_ws b0 bd0 pr0 t0 au0 da (.ref g0) ++ (rw_ws da cJ (r8 d0 d1 d2 d3 d4 d5 d6 d7) ++ (bd_ws bd0 h0 ro lo n cR (rrf rb) (rrf lb) ++ (pr_ws pr0 h0 cm cJ ccf ++ (ha_ws h0 aw ax ay cJ cI w csc cst cL ++ (tt_ws t0 ka aa ba sa (.ref g0) cJ T ++ gp_ws g0 mF mE P f1 k1 Q f2 k2 G)))))))) hD hS hA [0, 1, 2, 3, 4, 5, 6, 7, 8, 9, 10, 11, 12, 13, 14, 15, 16, 23, 24, 25] rfl
      have hZc0 : ha_Z rA sA (va_A ((jw_ws out cJ 1 of ++ (bb_ws b0 bd0 pr0 t0 au0 da (.ref g0) ++ (rw_ws da cJ (r8 d0 d1 d2 d3 d4 d5 d6 d7) ++ (bd_ws bd0 h0 ro lo n cR (rrf rb) (rrf lb) ++ (pr_ws pr0 h0 cm cJ ccf ++ (ha_ws h0 aw ax ay cJ cI w csc cst cL ++ (tt_ws t0 ka aa ba sa (.ref g0) cJ T ++ gp_ws g0 mF mE P f1 k1 Q f2 k2 G))))))) ++ bpool rb lb cJ R Lk) H.size) s H := (hZha.kept hS.2.1).narrow hFc
      have hZc1 : xz (va_A ((jw_ws out cJ 1 of ++ (bb_ws b0 bd0 pr0 t0 au0 da (.ref g0) ++ (rw_ws da cJ (r8 d0 d1 d2 d3 d4 d5 d6 d7) ++ (bd_ws bd0 h0 ro lo n cR (rrf rb) (rrf lb) ++ (pr_ws pr0 h0 cm cJ ccf ++ (ha_ws h0 aw ax ay cJ cI w csc cst cL ++ (tt_ws t0 ka aa ba sa (.ref g0) cJ T ++ gp_ws g0 mF mE P f1 k1 Q f2 k2 G))))))) ++ bpool rb lb cJ R Lk) H.size) s H := (hZx.kept hS.2.1).narrow hFc
      have hZc2 : nc_Z s := hZn
      refine vx_calli (vx_runSX (hh := h_Lw_makeBallot) (As := [.ref b0, .int x1, .int 1, .long x3, .long x4, .long x5, .long x6, .ref out]) (rest := []) ⟨hx, hb, hml, hown, hts⟩ (c_Lw_makeBallot_13 l hnt dC dI cJ cI cR H.size b0 bd0 pr0 t0 au0 da h0 ro lo n rb lb cm ccf aw ax ay w csc cst cL ka aa ba sa T g0 mF mE P f1 k1 Q f2 k2 G rA sA R Lk d0 d1 d2 d3 d4 d5 d6 d7 x1 1 x3 x4 x5 x6 out of hok htok hN0 htn hkc hn hn0B hkq (by decide) hC1 hn9 hC3) (vx_cwSW 8 hts (gw_Sv gk_667 gk_668 gk_0 gk_669) rfl rfl rfl (by decide +kernel) ⟨(Nat.le_of_ble_eq_true rfl), (Nat.le_of_ble_eq_true rfl)⟩) ⟨fun a U g mk q => by obtain ⟨q0, q1, qP, qK, qD, qZ0, qZ1, qZ2⟩ := q; exact ⟨q0, q1, qP, va_K.moved (u := U) (U := U.calling g mk a) (Vm.Alike.refl U.vm) qK, qD, ha_Z.moved (u := U) (U := U.calling g mk a) (Vm.Alike.refl U.vm) qZ0, xz.same (u := U) (U := U.calling g mk a) rfl qZ1, nc_Z.moved (u := U) (U := U.calling g mk a) (Vm.Alike.refl U.vm) qZ2⟩, fun U hU hW => ⟨rfl, by rw [hU], by rw [hU]; exact hPc, va_K.moved hW.alike hKc, hDc.weaken (fun _ _ _ _ => trivial), by rw [hU]; exact ha_Z.moved hW.alike hZc0, by rw [hU]; exact xz.warm hW hZc1, nc_Z.moved hW.alike hZc2⟩⟩ rfl rfl hl.1 rfl (lv_room (Nat.le_of_ble_eq_true rfl)) d_law_1042 ⟨show cells + 8 ≤ 601024 by omega, show slots + 48 ≤ 7293034 by omega⟩) hS (fun q _ h => hFc q h) hFc (fun q _ h => hFc q h) (fun E9 ce9 q9 u8 t9 H1 locs ht hvm hpx hbx hz1 hk1 hS hce hcv hcl => hpx.elim) (fun r_16 u9 t9 H1 locs ht hvm hw hB hz1 hk1 hS => ?_)
      obtain ⟨hP1, hK1, hD1⟩ := hB
      rw [ht] at hP1
      obtain ⟨hP, hD⟩ := va_joinP (X := (jw_ws out cJ 1 of ++ (bb_ws b0 bd0 pr0 t0 au0 da (.ref g0) ++ (rw_ws da cJ (r8 d0 d1 d2 d3 d4 d5 d6 d7) ++ (bd_ws bd0 h0 ro lo n cR (rrf rb) (rrf lb) ++ (pr_ws pr0 h0 cm cJ ccf ++ (ha_ws h0 aw ax ay cJ cI w csc cst cL ++ (tt_ws t0 ka aa ba sa (.ref g0) cJ T ++ (au_ws au0 bd0 pr0 tu0 sd ++ (tt_ws tu0 uka uaa uba usa gu cJ T0 ++ (gp_ws g0 mF mE P f1 k1 Q f2 k2 G ++ (mo_ws m0 e0 (nI (t_tn T)) (nI n) (nI (t_bc T)) (lN P) (lN Q) (lN G) (lN (ckey (t_tn T) (t_kc T) (t_kp T))) (lN (t_pa T)) (lN (t_pb T)) (t_sht T) a0 a1 a2 a3 a4 a5 a6 a7 a8 a9 mb0 mb1 oc mb2 mb3 mb4 mb5 ++ (iw_ws a7 cI 256 bf ++ (iw_ws a8 cI 64 sc ++ (iw_ws a9 cI 8 st ++ (iw_ws mb0 cI 8 kS ++ (iw_ws mb1 cI 64 kR ++ (jw_ws a2 cJ 4 tf ++ (jw_ws a0 cJ 1232 nf ++ (jw_ws a1 cJ 616 cf ++ (iw_ws a4 cI 4 kf ++ (jw_ws mb2 cJ 4 ky ++ (jw_ws a3 cJ 16 lf ++ (iw_ws a5 cI 4 sf ++ (iw_ws a6 cI 64 vf ++ (jw_ws mb3 cJ 128 md ++ (jw_ws mb4 cJ 4 sh ++ iw_ws mb5 cI 64 ct))))))))))))))))))))))))))) (cx := (jw_ws out cJ 1 of ++ (bb_ws b0 bd0 pr0 t0 au0 da (.ref g0) ++ (rw_ws da cJ (r8 d0 d1 d2 d3 d4 d5 d6 d7) ++ (bd_ws bd0 h0 ro lo n cR (rrf rb) (rrf lb) ++ (pr_ws pr0 h0 cm cJ ccf ++ (ha_ws h0 aw ax ay cJ cI w csc cst cL ++ (tt_ws t0 ka aa ba sa (.ref g0) cJ T ++ gp_ws g0 mF mE P f1 k1 Q f2 k2 G)))))))) (wr := (au_ws au0 bd0 pr0 tu0 sd ++ (tt_ws tu0 uka uaa uba usa gu cJ T0 ++ (mo_ws m0 e0 (nI (t_tn T)) (nI n) (nI (t_bc T)) (lN P) (lN Q) (lN G) (lN (ckey (t_tn T) (t_kc T) (t_kp T))) (lN (t_pa T)) (lN (t_pb T)) (t_sht T) a0 a1 a2 a3 a4 a5 a6 a7 a8 a9 mb0 mb1 oc mb2 mb3 mb4 mb5 ++ (iw_ws a7 cI 256 bf ++ (iw_ws a8 cI 64 sc ++ (iw_ws a9 cI 8 st ++ (iw_ws mb0 cI 8 kS ++ (iw_ws mb1 cI 64 kR ++ (jw_ws a2 cJ 4 tf ++ (jw_ws a0 cJ 1232 nf ++ (jw_ws a1 cJ 616 cf ++ (iw_ws a4 cI 4 kf ++ (jw_ws mb2 cJ 4 ky ++ (jw_ws a3 cJ 16 lf ++ (iw_ws a5 cI 4 sf ++ (iw_ws a6 cI 64 vf ++ (jw_ws mb3 cJ 128 md ++ (jw_ws mb4 cJ 4 sh ++ iw_ws mb5 cI 64 ct))))))))))))))))))) (rx := (jw_ws out cJ 1 of ++ (bb_ws b0 bd0 pr0 t0 au0 da (.ref g0) ++ (rw_ws da cJ (r8 u9.1.1 u9.1.2.1 u9.1.2.2.1 u9.1.2.2.2.1 u9.1.2.2.2.2.1 u9.1.2.2.2.2.2.1 u9.1.2.2.2.2.2.2.1 u9.1.2.2.2.2.2.2.2) ++ (bd_ws bd0 h0 ro lo n cR (rrf rb) (rrf lb) ++ (pr_ws pr0 h0 cm cJ u9.2.1 ++ (hu_ws h0 aw ax ay cJ cI u9.2.2 ++ (tt_ws t0 ka aa ba sa (.ref g0) cJ T ++ gp_ws g0 mF mE P f1 k1 Q f2 k2 G)))))))) (pl := bpool rb lb cJ R Lk) (pl1 := bpool rb lb cJ R Lk) hP hD [0, 1, 2, 3, 4, 5, 6, 7, 8, 9, 10, 11, 12, 13, 14, 15, 16, 23, 24, 25] [17, 18, 19, 20, 21, 22, 26, 27, 28, 29, 30, 31, 32, 33, 34, 35, 36, 37, 38, 39, 40, 41, 42] rfl rfl (by decide) (by decide) hk1 hFc hP1 hD1
      have hP := hP.part (cx := (jw_ws out cJ 1 of ++ (bb_ws b0 bd0 pr0 t0 au0 da (.ref g0) ++ (rw_ws da cJ (r8 u9.1.1 u9.1.2.1 u9.1.2.2.1 u9.1.2.2.2.1 u9.1.2.2.2.2.1 u9.1.2.2.2.2.2.1 u9.1.2.2.2.2.2.2.1 u9.1.2.2.2.2.2.2.2) ++ (bd_ws bd0 h0 ro lo n cR (rrf rb) (rrf lb) ++ (pr_ws pr0 h0 cm cJ u9.2.1 ++ (hu_ws h0 aw ax ay cJ cI u9.2.2 ++ (tt_ws t0 ka aa ba sa (.ref g0) cJ T ++ (au_ws au0 bd0 pr0 tu0 sd ++ (tt_ws tu0 uka uaa uba usa gu cJ T0 ++ (gp_ws g0 mF mE P f1 k1 Q f2 k2 G ++ (mo_ws m0 e0 (nI (t_tn T)) (nI n) (nI (t_bc T)) (lN P) (lN Q) (lN G) (lN (ckey (t_tn T) (t_kc T) (t_kp T))) (lN (t_pa T)) (lN (t_pb T)) (t_sht T) a0 a1 a2 a3 a4 a5 a6 a7 a8 a9 mb0 mb1 oc mb2 mb3 mb4 mb5 ++ (iw_ws a7 cI 256 bf ++ (iw_ws a8 cI 64 sc ++ (iw_ws a9 cI 8 st ++ (iw_ws mb0 cI 8 kS ++ (iw_ws mb1 cI 64 kR ++ (jw_ws a2 cJ 4 tf ++ (jw_ws a0 cJ 1232 nf ++ (jw_ws a1 cJ 616 cf ++ (iw_ws a4 cI 4 kf ++ (jw_ws mb2 cJ 4 ky ++ (jw_ws a3 cJ 16 lf ++ (iw_ws a5 cI 4 sf ++ (iw_ws a6 cI 64 vf ++ (jw_ws mb3 cJ 128 md ++ (jw_ws mb4 cJ 4 sh ++ iw_ws mb5 cI 64 ct))))))))))))))))))))))))))) [23, 24, 25, 26, 27, 28, 29, 30, 31, 32, 33, 34, 35, 36, 37, 38, 39, 0, 1, 2, 3, 4, 5, 40, 41, 42, 6, 7, 8, 9, 10, 11, 12, 13, 14, 15, 16, 17, 18, 19, 20, 21, 22] rfl
      have hD := hD.part (cx := (jw_ws out cJ 1 of ++ (bb_ws b0 bd0 pr0 t0 au0 da (.ref g0) ++ (rw_ws da cJ (r8 u9.1.1 u9.1.2.1 u9.1.2.2.1 u9.1.2.2.2.1 u9.1.2.2.2.2.1 u9.1.2.2.2.2.2.1 u9.1.2.2.2.2.2.2.1 u9.1.2.2.2.2.2.2.2) ++ (bd_ws bd0 h0 ro lo n cR (rrf rb) (rrf lb) ++ (pr_ws pr0 h0 cm cJ u9.2.1 ++ (hu_ws h0 aw ax ay cJ cI u9.2.2 ++ (tt_ws t0 ka aa ba sa (.ref g0) cJ T ++ (au_ws au0 bd0 pr0 tu0 sd ++ (tt_ws tu0 uka uaa uba usa gu cJ T0 ++ (gp_ws g0 mF mE P f1 k1 Q f2 k2 G ++ (mo_ws m0 e0 (nI (t_tn T)) (nI n) (nI (t_bc T)) (lN P) (lN Q) (lN G) (lN (ckey (t_tn T) (t_kc T) (t_kp T))) (lN (t_pa T)) (lN (t_pb T)) (t_sht T) a0 a1 a2 a3 a4 a5 a6 a7 a8 a9 mb0 mb1 oc mb2 mb3 mb4 mb5 ++ (iw_ws a7 cI 256 bf ++ (iw_ws a8 cI 64 sc ++ (iw_ws a9 cI 8 st ++ (iw_ws mb0 cI 8 kS ++ (iw_ws mb1 cI 64 kR ++ (jw_ws a2 cJ 4 tf ++ (jw_ws a0 cJ 1232 nf ++ (jw_ws a1 cJ 616 cf ++ (iw_ws a4 cI 4 kf ++ (jw_ws mb2 cJ 4 ky ++ (jw_ws a3 cJ 16 lf ++ (iw_ws a5 cI 4 sf ++ (iw_ws a6 cI 64 vf ++ (jw_ws mb3 cJ 128 md ++ (jw_ws mb4 cJ 4 sh ++ iw_ws mb5 cI 64 ct))))))))))))))))))))))))))) [23, 24, 25, 26, 27, 28, 29, 30, 31, 32, 33, 34, 35, 36, 37, 38, 39, 0, 1, 2, 3, 4, 5, 40, 41, 42, 6, 7, 8, 9, 10, 11, 12, 13, 14, 15, 16, 17, 18, 19, 20, 21, 22] (by decide) rfl
      generalize H1 = H at hP hS ⊢
      clear hPc hDc hFc hP1 hD1 hK1 ht hk1 hz1
      have hr9 : r_16 = 3 := hw
      subst hr9
      refine lv_istore (lv' := [(5, .int 3), (4, .int (nI i)), (3, .ref out), (2, .ref m0), (1, .ref b0), (0, .ref b)]) hx hb d_law_1045 hl (by decide) rfl (fun ls hl => ?_)
      refine lv_aload_n hx hb d_law_1047 rfl (lv_at hl 3 rfl) ?_
      refine lv_aload_n hx hb d_law_1048 rfl (lv_at hl 5 rfl) ?_
      refine lv_iload hx hb d_law_1049 (lv_at hl 1 rfl) ?_
      refine lv_iconst (v := 1) hx hb d_law_1051 (by decide) ?_
      refine lv_iadd hx hb d_law_1052 ?_
      rw [show ((nI i) + 1 : Int32) = nI (i + 1) from nI_add _ 1]
      refine va_sld hx hb hX hbl hbA hS (vp_in_nI (by omega) (by omega)) d_law_1053 ?_
      rw [show (xs (nI (i + 1)).toNatClampNeg : Int32) = xs (i + 1) from by rw [nI_clamp (by omega)]]
      rw [show (xs (i + 1) : Int32) = x1 from hx1.symm]
      refine lv_aload_n hx hb d_law_1054 rfl (lv_at hl 5 rfl) ?_
      refine lv_iload hx hb d_law_1055 (lv_at hl 1 rfl) ?_
      refine lv_iconst (v := 2) hx hb d_law_1057 (by decide) ?_
      refine lv_iadd hx hb d_law_1058 ?_
      rw [show ((nI i) + 2 : Int32) = nI (i + 2) from nI_add _ 2]
      refine va_sld hx hb hX hbl hbA hS (vp_in_nI (by omega) (by omega)) d_law_1059 ?_
      rw [show (xs (nI (i + 2)).toNatClampNeg : Int32) = xs (i + 2) from by rw [nI_clamp (by omega)]]
      rw [show (xs (i + 2) : Int32) = x2 from hx2.symm]
      refine lv_if_eq (tgt := 1067) hx hb d_law_1060 (by decide) (fun c_17 => ?_) (fun c_17 => ?_)
      · -- taken
        exact absurd c_17 (by rw [hx2]; exact hx0)
      · -- not taken
        refine lv_iconst (v := 1) hx hb d_law_1063 (by decide) ?_
        refine lv_goto (tgt := 1068) hx hb d_law_1064 (by decide) ?_
        refine lv_aload_n hx hb d_law_1068 rfl (lv_at hl 5 rfl) ?_
        refine lv_iload hx hb d_law_1069 (lv_at hl 1 rfl) ?_
        refine lv_iconst (v := 3) hx hb d_law_1071 (by decide) ?_
        refine lv_iadd hx hb d_law_1072 ?_
        rw [show ((nI i) + 3 : Int32) = nI (i + 3) from nI_add _ 3]
        refine va_sld hx hb hX hbl hbA hS (vp_in_nI (by omega) (by omega)) d_law_1073 ?_
        rw [show (xs (nI (i + 3)).toNatClampNeg : Int32) = xs (i + 3) from by rw [nI_clamp (by omega)]]
        refine lv_i2l (v := (xs (i + 3) : Int32).toInt64) hx hb d_law_1074 rfl ?_
        refine lv_bipush (v := 32) hx hb d_law_1075 (by decide) ?_
        refine lv_lshl (v := ((xs (i + 3) : Int32).toInt64 : Int64) <<< ((32 : Int32).toInt64 &&& 63)) hx hb d_law_1077 rfl ?_
        refine lv_aload_n hx hb d_law_1078 rfl (lv_at hl 5 rfl) ?_
        refine lv_iload hx hb d_law_1079 (lv_at hl 1 rfl) ?_
        refine lv_iconst (v := 4) hx hb d_law_1081 (by decide) ?_
        refine lv_iadd hx hb d_law_1082 ?_
        rw [show ((nI i) + 4 : Int32) = nI (i + 4) from nI_add _ 4]
        refine va_sld hx hb hX hbl hbA hS (vp_in_nI (by omega) (by omega)) d_law_1083 ?_
        rw [show (xs (nI (i + 4)).toNatClampNeg : Int32) = xs (i + 4) from by rw [nI_clamp (by omega)]]
        refine lv_i2l (v := (xs (i + 4) : Int32).toInt64) hx hb d_law_1084 rfl ?_
        refine lv_ldc2 (v := 4294967295) hx hb hown (hts _ (List.mem_cons_of_mem _ gk_1202)) d_law_1085 ?_
        refine lv_land hx hb d_law_1088 ?_
        refine lv_lor hx hb d_law_1089 ?_
        rw [show ((((xs (i + 3) : Int32).toInt64 : Int64) <<< ((32 : Int32).toInt64 &&& 63)) ||| (((xs (i + 4) : Int32).toInt64) &&& 4294967295) : Int64) = x3 from hx3.symm]
        refine lv_aload_n hx hb d_law_1090 rfl (lv_at hl 5 rfl) ?_
        refine lv_iload hx hb d_law_1091 (lv_at hl 1 rfl) ?_
        refine lv_iconst (v := 5) hx hb d_law_1093 (by decide) ?_
        refine lv_iadd hx hb d_law_1094 ?_
        rw [show ((nI i) + 5 : Int32) = nI (i + 5) from nI_add _ 5]
        refine va_sld hx hb hX hbl hbA hS (vp_in_nI (by omega) (by omega)) d_law_1095 ?_
        rw [show (xs (nI (i + 5)).toNatClampNeg : Int32) = xs (i + 5) from by rw [nI_clamp (by omega)]]
        refine lv_i2l (v := (xs (i + 5) : Int32).toInt64) hx hb d_law_1096 rfl ?_
        refine lv_bipush (v := 32) hx hb d_law_1097 (by decide) ?_
        refine lv_lshl (v := ((xs (i + 5) : Int32).toInt64 : Int64) <<< ((32 : Int32).toInt64 &&& 63)) hx hb d_law_1099 rfl ?_
        refine lv_aload_n hx hb d_law_1100 rfl (lv_at hl 5 rfl) ?_
        refine lv_iload hx hb d_law_1101 (lv_at hl 1 rfl) ?_
        refine lv_bipush (v := 6) hx hb d_law_1103 (by decide) ?_
        refine lv_iadd hx hb d_law_1105 ?_
        rw [show ((nI i) + 6 : Int32) = nI (i + 6) from nI_add _ 6]
        refine va_sld hx hb hX hbl hbA hS (vp_in_nI (by omega) (by omega)) d_law_1106 ?_
        rw [show (xs (nI (i + 6)).toNatClampNeg : Int32) = xs (i + 6) from by rw [nI_clamp (by omega)]]
        refine lv_i2l (v := (xs (i + 6) : Int32).toInt64) hx hb d_law_1107 rfl ?_
        refine lv_ldc2 (v := 4294967295) hx hb hown (hts _ (List.mem_cons_of_mem _ gk_1202)) d_law_1108 ?_
        refine lv_land hx hb d_law_1111 ?_
        refine lv_lor hx hb d_law_1112 ?_
        rw [show ((((xs (i + 5) : Int32).toInt64 : Int64) <<< ((32 : Int32).toInt64 &&& 63)) ||| (((xs (i + 6) : Int32).toInt64) &&& 4294967295) : Int64) = x4 from hx4.symm]
        refine lv_aload_n hx hb d_law_1113 rfl (lv_at hl 5 rfl) ?_
        refine lv_iload hx hb d_law_1114 (lv_at hl 1 rfl) ?_
        refine lv_bipush (v := 7) hx hb d_law_1116 (by decide) ?_
        refine lv_iadd hx hb d_law_1118 ?_
        rw [show ((nI i) + 7 : Int32) = nI (i + 7) from nI_add _ 7]
        refine va_sld hx hb hX hbl hbA hS (vp_in_nI (by omega) (by omega)) d_law_1119 ?_
        rw [show (xs (nI (i + 7)).toNatClampNeg : Int32) = xs (i + 7) from by rw [nI_clamp (by omega)]]
        refine lv_i2l (v := (xs (i + 7) : Int32).toInt64) hx hb d_law_1120 rfl ?_
        refine lv_bipush (v := 32) hx hb d_law_1121 (by decide) ?_
        refine lv_lshl (v := ((xs (i + 7) : Int32).toInt64 : Int64) <<< ((32 : Int32).toInt64 &&& 63)) hx hb d_law_1123 rfl ?_
        refine lv_aload_n hx hb d_law_1124 rfl (lv_at hl 5 rfl) ?_
        refine lv_iload hx hb d_law_1125 (lv_at hl 1 rfl) ?_
        refine lv_bipush (v := 8) hx hb d_law_1127 (by decide) ?_
        refine lv_iadd hx hb d_law_1129 ?_
        rw [show ((nI i) + 8 : Int32) = nI (i + 8) from nI_add _ 8]
        refine va_sld hx hb hX hbl hbA hS (vp_in_nI (by omega) (by omega)) d_law_1130 ?_
        rw [show (xs (nI (i + 8)).toNatClampNeg : Int32) = xs (i + 8) from by rw [nI_clamp (by omega)]]
        refine lv_i2l (v := (xs (i + 8) : Int32).toInt64) hx hb d_law_1131 rfl ?_
        refine lv_ldc2 (v := 4294967295) hx hb hown (hts _ (List.mem_cons_of_mem _ gk_1202)) d_law_1132 ?_
        refine lv_land hx hb d_law_1135 ?_
        refine lv_lor hx hb d_law_1136 ?_
        rw [show ((((xs (i + 7) : Int32).toInt64 : Int64) <<< ((32 : Int32).toInt64 &&& 63)) ||| (((xs (i + 8) : Int32).toInt64) &&& 4294967295) : Int64) = x5 from hx5.symm]
        refine lv_aload_n hx hb d_law_1137 rfl (lv_at hl 5 rfl) ?_
        refine lv_iload hx hb d_law_1138 (lv_at hl 1 rfl) ?_
        refine lv_bipush (v := 9) hx hb d_law_1140 (by decide) ?_
        refine lv_iadd hx hb d_law_1142 ?_
        rw [show ((nI i) + 9 : Int32) = nI (i + 9) from nI_add _ 9]
        refine va_sld hx hb hX hbl hbA hS (vp_in_nI (by omega) (by omega)) d_law_1143 ?_
        rw [show (xs (nI (i + 9)).toNatClampNeg : Int32) = xs (i + 9) from by rw [nI_clamp (by omega)]]
        refine lv_i2l (v := (xs (i + 9) : Int32).toInt64) hx hb d_law_1144 rfl ?_
        refine lv_bipush (v := 32) hx hb d_law_1145 (by decide) ?_
        refine lv_lshl (v := ((xs (i + 9) : Int32).toInt64 : Int64) <<< ((32 : Int32).toInt64 &&& 63)) hx hb d_law_1147 rfl ?_
        refine lv_aload_n hx hb d_law_1148 rfl (lv_at hl 5 rfl) ?_
        refine lv_iload hx hb d_law_1149 (lv_at hl 1 rfl) ?_
        refine lv_bipush (v := 10) hx hb d_law_1151 (by decide) ?_
        refine lv_iadd hx hb d_law_1153 ?_
        rw [show ((nI i) + 10 : Int32) = nI (i + 10) from nI_add _ 10]
        refine va_sld hx hb hX hbl hbA hS (vp_in_nI (by omega) (by omega)) d_law_1154 ?_
        rw [show (xs (nI (i + 10)).toNatClampNeg : Int32) = xs (i + 10) from by rw [nI_clamp (by omega)]]
        refine lv_i2l (v := (xs (i + 10) : Int32).toInt64) hx hb d_law_1155 rfl ?_
        refine lv_ldc2 (v := 4294967295) hx hb hown (hts _ (List.mem_cons_of_mem _ gk_1202)) d_law_1156 ?_
        refine lv_land hx hb d_law_1159 ?_
        refine lv_lor hx hb d_law_1160 ?_
        rw [show ((((xs (i + 9) : Int32).toInt64 : Int64) <<< ((32 : Int32).toInt64 &&& 63)) ||| (((xs (i + 10) : Int32).toInt64) &&& 4294967295) : Int64) = x6 from hx6.symm]
        have hPc := hP.sub (ws' := (mo_ws m0 e0 (nI (t_tn T)) (nI n) (nI (t_bc T)) (lN P) (lN Q) (lN G) (lN (ckey (t_tn T) (t_kc T) (t_kp T))) (lN (t_pa T)) (lN (t_pb T)) (t_sht T) a0 a1 a2 a3 a4 a5 a6 a7 a8 a9 mb0 mb1 oc mb2 mb3 mb4 mb5 ++ (iw_ws a7 cI 256 bf ++ (iw_ws a8 cI 64 sc ++ (iw_ws a9 cI 8 st ++ (iw_ws mb0 cI 8 kS ++ (iw_ws mb1 cI 64 kR ++ (jw_ws a2 cJ 4 tf ++ (jw_ws a0 cJ 1232 nf ++ (jw_ws a1 cJ 616 cf ++ (iw_ws a6 cI 64 vf ++ (jw_ws mb3 cJ 128 md ++ (iw_ws a4 cI 4 kf ++ jw_ws a3 cJ 16 lf))))))))))))) [26, 27, 28, 29, 30, 31, 32, 33, 34, 39, 40, 35, 37] rfl
        have hDc := hD.sub (ws' := (mo_ws m0 e0 (nI (t_tn T)) (nI n) (nI (t_bc T)) (lN P) (lN Q) (lN G) (lN (ckey (t_tn T) (t_kc T) (t_kp T))) (lN (t_pa T)) (lN (t_pb T)) (t_sht T) a0 a1 a2 a3 a4 a5 a6 a7 a8 a9 mb0 mb1 oc mb2 mb3 mb4 mb5 ++ (iw_ws a7 cI 256 bf ++ (iw_ws a8 cI 64 sc ++ (iw_ws a9 cI 8 st ++ (iw_ws mb0 cI 8 kS ++ (iw_ws mb1 cI 64 kR ++ (jw_ws a2 cJ 4 tf ++ (jw_ws a0 cJ 1232 nf ++ (jw_ws a1 cJ 616 cf ++ (iw_ws a6 cI 64 vf ++ (jw_ws mb3 cJ 128 md ++ (iw_ws a4 cI 4 kf ++ jw_ws a3 cJ 16 lf))))))))))))) [26, 27, 28, 29, 30, 31, 32, 33, 34, 39, 40, 35, 37] (by decide) rfl
        have hKc := hK.sub (tys' := [(cJ, .long), (cI, .int)]) [0, 1] rfl
        have hFc := va_free (wc := (mo_ws m0 e0 (nI (t_tn T)) (nI n) (nI (t_bc T)) (lN P) (lN Q) (lN G) (lN (ckey (t_tn T) (t_kc T) (t_kp T))) (lN (t_pa T)) (lN (t_pb T)) (t_sht T) a0 a1 a2 a3 a4 a5 a6 a7 a8 a9 mb0 mb1 oc mb2 mb3 mb4 mb5 ++ (iw_ws a7 cI 256 bf ++ (iw_ws a8 cI 64 sc ++ (iw_ws a9 cI 8 st ++ (iw_ws mb0 cI 8 kS ++ (iw_ws mb1 cI 64 kR ++ (jw_ws a2 cJ 4 tf ++ (jw_ws a0 cJ 1232 nf ++ (jw_ws a1 cJ 616 cf ++ (iw_ws a6 cI 64 vf ++ (jw_ws mb3 cJ 128 md ++ (iw_ws a4 cI 4 kf ++ jw_ws a3 cJ 16 lf))))))))))))) hD hS hA [26, 27, 28, 29, 30, 31, 32, 33, 34, 39, 40, 35, 37] rfl
        refine va_calli (va_runV (As := [.int x1, .int 1, .long x3, .long x4, .long x5, .long x6]) (rest := []) ⟨hx, hb, hml, hown, hts⟩ (c_Bm_makeBallot_3 l dC dI cJ cI H.size m0 e0 (t_tn T) n (t_bc T) P Q G (ckey (t_tn T) (t_kc T) (t_kp T)) (t_pa T) (t_pb T) (t_sht T) a0 a1 a2 a3 a4 a5 a6 a7 a8 a9 mb0 mb1 oc mb2 mb3 mb4 mb5 bf sc st vf kf tf nf cf md lf (t_ko T) (t_ao T) ky (fun i => lN (t_ao T i)) x1 1 x3 x4 x5 x6 htn hgr hn hsh0 hrk hrb hal (fun q => hC1 ((bC1_iff hRT).mpr q)) hn9 hC3) (cwV 6 hts (gw_V gk_1141 gk_1142 gk_1143 gk_7 gk_1144) rfl rfl rfl (by decide +kernel) ⟨(Nat.le_of_ble_eq_true rfl), (Nat.le_of_ble_eq_true rfl)⟩) ⟨fun a U g mk q => by obtain ⟨q0, q1, qP, qK, qD⟩ := q; exact ⟨q0, q1, qP, va_K.moved (u := U) (U := U.calling g mk a) (Vm.Alike.refl U.vm) qK, qD⟩, va_recv hK hP (ci := 8) (q0 := 26) rfl rfl, fun U hU hW => ⟨rfl, by rw [hU], by rw [hU]; exact hPc, va_K.moved hW.alike hKc, hDc.weaken (fun _ _ _ _ => trivial)⟩⟩ rfl rfl hl.1 rfl (lv_room (Nat.le_of_ble_eq_true rfl)) d_law_1161 ⟨show cells + 8 + 0 ≤ 601024 by omega, show slots + 48 + 0 ≤ 7293034 by omega⟩) hS (fun q _ h => hFc q h) hFc (fun r_18 v9 t9 H1 locs ht hvm hw hB hz1 hk1 hS => ?_)
        obtain ⟨hP1, hK1, hD1⟩ := hB
        rw [ht] at hP1
        obtain ⟨hP, hD⟩ := va_joinQ (X := (jw_ws out cJ 1 of ++ (bb_ws b0 bd0 pr0 t0 au0 da (.ref g0) ++ (rw_ws da cJ (r8 u9.1.1 u9.1.2.1 u9.1.2.2.1 u9.1.2.2.2.1 u9.1.2.2.2.2.1 u9.1.2.2.2.2.2.1 u9.1.2.2.2.2.2.2.1 u9.1.2.2.2.2.2.2.2) ++ (bd_ws bd0 h0 ro lo n cR (rrf rb) (rrf lb) ++ (pr_ws pr0 h0 cm cJ u9.2.1 ++ (hu_ws h0 aw ax ay cJ cI u9.2.2 ++ (tt_ws t0 ka aa ba sa (.ref g0) cJ T ++ (au_ws au0 bd0 pr0 tu0 sd ++ (tt_ws tu0 uka uaa uba usa gu cJ T0 ++ (gp_ws g0 mF mE P f1 k1 Q f2 k2 G ++ (mo_ws m0 e0 (nI (t_tn T)) (nI n) (nI (t_bc T)) (lN P) (lN Q) (lN G) (lN (ckey (t_tn T) (t_kc T) (t_kp T))) (lN (t_pa T)) (lN (t_pb T)) (t_sht T) a0 a1 a2 a3 a4 a5 a6 a7 a8 a9 mb0 mb1 oc mb2 mb3 mb4 mb5 ++ (iw_ws a7 cI 256 bf ++ (iw_ws a8 cI 64 sc ++ (iw_ws a9 cI 8 st ++ (iw_ws mb0 cI 8 kS ++ (iw_ws mb1 cI 64 kR ++ (jw_ws a2 cJ 4 tf ++ (jw_ws a0 cJ 1232 nf ++ (jw_ws a1 cJ 616 cf ++ (iw_ws a4 cI 4 kf ++ (jw_ws mb2 cJ 4 ky ++ (jw_ws a3 cJ 16 lf ++ (iw_ws a5 cI 4 sf ++ (iw_ws a6 cI 64 vf ++ (jw_ws mb3 cJ 128 md ++ (jw_ws mb4 cJ 4 sh ++ iw_ws mb5 cI 64 ct))))))))))))))))))))))))))) (cx := (mo_ws m0 e0 (nI (t_tn T)) (nI n) (nI (t_bc T)) (lN P) (lN Q) (lN G) (lN (ckey (t_tn T) (t_kc T) (t_kp T))) (lN (t_pa T)) (lN (t_pb T)) (t_sht T) a0 a1 a2 a3 a4 a5 a6 a7 a8 a9 mb0 mb1 oc mb2 mb3 mb4 mb5 ++ (iw_ws a7 cI 256 bf ++ (iw_ws a8 cI 64 sc ++ (iw_ws a9 cI 8 st ++ (iw_ws mb0 cI 8 kS ++ (iw_ws mb1 cI 64 kR ++ (jw_ws a2 cJ 4 tf ++ (jw_ws a0 cJ 1232 nf ++ (jw_ws a1 cJ 616 cf ++ (iw_ws a6 cI 64 vf ++ (jw_ws mb3 cJ 128 md ++ (iw_ws a4 cI 4 kf ++ jw_ws a3 cJ 16 lf))))))))))))) (wr := (jw_ws out cJ 1 of ++ (bb_ws b0 bd0 pr0 t0 au0 da (.ref g0) ++ (rw_ws da cJ (r8 u9.1.1 u9.1.2.1 u9.1.2.2.1 u9.1.2.2.2.1 u9.1.2.2.2.2.1 u9.1.2.2.2.2.2.1 u9.1.2.2.2.2.2.2.1 u9.1.2.2.2.2.2.2.2) ++ (bd_ws bd0 h0 ro lo n cR (rrf rb) (rrf lb) ++ (pr_ws pr0 h0 cm cJ u9.2.1 ++ (hu_ws h0 aw ax ay cJ cI u9.2.2 ++ (tt_ws t0 ka aa ba sa (.ref g0) cJ T ++ (au_ws au0 bd0 pr0 tu0 sd ++ (tt_ws tu0 uka uaa uba usa gu cJ T0 ++ (gp_ws g0 mF mE P f1 k1 Q f2 k2 G ++ (jw_ws mb2 cJ 4 ky ++ (iw_ws a5 cI 4 sf ++ (jw_ws mb4 cJ 4 sh ++ iw_ws mb5 cI 64 ct)))))))))))))) (w1 := (mo_ws m0 3 (nI (t_tn T)) (nI n) (nI (t_bc T)) (lN P) (lN Q) (lN G) (lN (ckey (t_tn T) (t_kc T) (t_kp T))) (lN (t_pa T)) (lN (t_pb T)) (t_sht T) a0 a1 a2 a3 a4 a5 a6 a7 a8 a9 mb0 mb1 oc mb2 mb3 mb4 mb5 ++ (iw_ws a7 cI 256 bf ++ (iw_ws a8 cI 64 sc ++ (iw_ws a9 cI 8 st ++ (iw_ws mb0 cI 8 kS ++ (iw_ws mb1 cI 64 kR ++ (jw_ws a2 cJ 4 tf ++ (jw_ws a0 cJ 1232 nf ++ (jw_ws a1 cJ 616 cf ++ (iw_ws a6 cI 64 vf ++ (jw_ws mb3 cJ 128 md ++ (iw_ws a4 cI 4 kf ++ jw_ws a3 cJ 16 lf))))))))))))) (pl := bpool rb lb cJ R Lk) hP hD [26, 27, 28, 29, 30, 31, 32, 33, 34, 39, 40, 35, 37] [0, 1, 2, 3, 4, 5, 6, 7, 8, 9, 10, 11, 12, 13, 14, 15, 16, 17, 18, 19, 20, 21, 22, 23, 24, 25, 36, 38, 41, 42] rfl rfl (by decide) (by decide) hk1 hFc hP1 hD1
        have hP := hP.part (cx := (jw_ws out cJ 1 of ++ (bb_ws b0 bd0 pr0 t0 au0 da (.ref g0) ++ (rw_ws da cJ (r8 u9.1.1 u9.1.2.1 u9.1.2.2.1 u9.1.2.2.2.1 u9.1.2.2.2.2.1 u9.1.2.2.2.2.2.1 u9.1.2.2.2.2.2.2.1 u9.1.2.2.2.2.2.2.2) ++ (bd_ws bd0 h0 ro lo n cR (rrf rb) (rrf lb) ++ (pr_ws pr0 h0 cm cJ u9.2.1 ++ (hu_ws h0 aw ax ay cJ cI u9.2.2 ++ (tt_ws t0 ka aa ba sa (.ref g0) cJ T ++ (au_ws au0 bd0 pr0 tu0 sd ++ (tt_ws tu0 uka uaa uba usa gu cJ T0 ++ (gp_ws g0 mF mE P f1 k1 Q f2 k2 G ++ (mo_ws m0 3 (nI (t_tn T)) (nI n) (nI (t_bc T)) (lN P) (lN Q) (lN G) (lN (ckey (t_tn T) (t_kc T) (t_kp T))) (lN (t_pa T)) (lN (t_pb T)) (t_sht T) a0 a1 a2 a3 a4 a5 a6 a7 a8 a9 mb0 mb1 oc mb2 mb3 mb4 mb5 ++ (iw_ws a7 cI 256 bf ++ (iw_ws a8 cI 64 sc ++ (iw_ws a9 cI 8 st ++ (iw_ws mb0 cI 8 kS ++ (iw_ws mb1 cI 64 kR ++ (jw_ws a2 cJ 4 tf ++ (jw_ws a0 cJ 1232 nf ++ (jw_ws a1 cJ 616 cf ++ (iw_ws a4 cI 4 kf ++ (jw_ws mb2 cJ 4 ky ++ (jw_ws a3 cJ 16 lf ++ (iw_ws a5 cI 4 sf ++ (iw_ws a6 cI 64 vf ++ (jw_ws mb3 cJ 128 md ++ (jw_ws mb4 cJ 4 sh ++ iw_ws mb5 cI 64 ct))))))))))))))))))))))))))) [0, 1, 2, 3, 4, 5, 6, 7, 8, 9, 10, 11, 12, 13, 14, 15, 16, 17, 18, 19, 20, 21, 22, 23, 24, 25, 30, 31, 32, 33, 34, 35, 36, 37, 38, 41, 26, 42, 27, 39, 40, 28, 29] rfl
        have hD := hD.part (cx := (jw_ws out cJ 1 of ++ (bb_ws b0 bd0 pr0 t0 au0 da (.ref g0) ++ (rw_ws da cJ (r8 u9.1.1 u9.1.2.1 u9.1.2.2.1 u9.1.2.2.2.1 u9.1.2.2.2.2.1 u9.1.2.2.2.2.2.1 u9.1.2.2.2.2.2.2.1 u9.1.2.2.2.2.2.2.2) ++ (bd_ws bd0 h0 ro lo n cR (rrf rb) (rrf lb) ++ (pr_ws pr0 h0 cm cJ u9.2.1 ++ (hu_ws h0 aw ax ay cJ cI u9.2.2 ++ (tt_ws t0 ka aa ba sa (.ref g0) cJ T ++ (au_ws au0 bd0 pr0 tu0 sd ++ (tt_ws tu0 uka uaa uba usa gu cJ T0 ++ (gp_ws g0 mF mE P f1 k1 Q f2 k2 G ++ (mo_ws m0 3 (nI (t_tn T)) (nI n) (nI (t_bc T)) (lN P) (lN Q) (lN G) (lN (ckey (t_tn T) (t_kc T) (t_kp T))) (lN (t_pa T)) (lN (t_pb T)) (t_sht T) a0 a1 a2 a3 a4 a5 a6 a7 a8 a9 mb0 mb1 oc mb2 mb3 mb4 mb5 ++ (iw_ws a7 cI 256 bf ++ (iw_ws a8 cI 64 sc ++ (iw_ws a9 cI 8 st ++ (iw_ws mb0 cI 8 kS ++ (iw_ws mb1 cI 64 kR ++ (jw_ws a2 cJ 4 tf ++ (jw_ws a0 cJ 1232 nf ++ (jw_ws a1 cJ 616 cf ++ (iw_ws a4 cI 4 kf ++ (jw_ws mb2 cJ 4 ky ++ (jw_ws a3 cJ 16 lf ++ (iw_ws a5 cI 4 sf ++ (iw_ws a6 cI 64 vf ++ (jw_ws mb3 cJ 128 md ++ (jw_ws mb4 cJ 4 sh ++ iw_ws mb5 cI 64 ct))))))))))))))))))))))))))) [0, 1, 2, 3, 4, 5, 6, 7, 8, 9, 10, 11, 12, 13, 14, 15, 16, 17, 18, 19, 20, 21, 22, 23, 24, 25, 30, 31, 32, 33, 34, 35, 36, 37, 38, 41, 26, 42, 27, 39, 40, 28, 29] (by decide) rfl
        generalize H1 = H at hP hS ⊢
        clear hPc hDc hFc hP1 hD1 hK1 ht hk1 hz1
        refine lv_istore (lv' := [(6, .int r_18), (5, .int 3), (4, .int (nI i)), (3, .ref out), (2, .ref m0), (1, .ref b0), (0, .ref b)]) hx hb d_law_1164 hl (by decide) rfl (fun ls hl => ?_)
        refine lv_aload_n hx hb d_law_1166 rfl (lv_at hl 4 rfl) ?_
        have hPc := hP.sub (ws' := (mo_ws m0 3 (nI (t_tn T)) (nI n) (nI (t_bc T)) (lN P) (lN Q) (lN G) (lN (ckey (t_tn T) (t_kc T) (t_kp T))) (lN (t_pa T)) (lN (t_pb T)) (t_sht T) a0 a1 a2 a3 a4 a5 a6 a7 a8 a9 mb0 mb1 oc mb2 mb3 mb4 mb5)) [26] rfl
        have hKc := hK.sub (tys' := [(cJ, .long), (cI, .int)]) [0, 1] rfl
        refine va_calli (va_runV (As := []) (rest := []) ⟨hx, hb, hml, hown, hts⟩ (c_Bm_thrown l H dC dI cJ cI m0 3 (nI (t_tn T)) (nI n) (nI (t_bc T)) (lN P) (lN Q) (lN G) (lN (ckey (t_tn T) (t_kc T) (t_kp T))) (lN (t_pa T)) (lN (t_pb T)) (t_sht T) a0 a1 a2 a3 a4 a5 a6 a7 a8 a9 mb0 mb1 oc mb2 mb3 mb4 mb5 hPc) (cwV 0 hts (gw_V gk_1004 gk_1005 gk_1006 gk_7 gk_1007) rfl rfl rfl (by decide +kernel) ⟨(Nat.le_of_ble_eq_true rfl), (Nat.le_of_ble_eq_true rfl)⟩) ⟨fun a U g mk q => ⟨q.1, q.2.1, va_K.moved (u := U) (U := U.calling g mk a) (Vm.Alike.refl U.vm) q.2.2⟩, va_recv hK hP (ci := 8) (q0 := 26) rfl rfl, fun U hU hW => ⟨rfl, hU, va_K.moved hW.alike hKc⟩⟩ rfl rfl hl.1 rfl (lv_room (Nat.le_of_ble_eq_true rfl)) d_law_1167 ⟨show cells + 8 + 0 + 0 ≤ 601024 by omega, show slots + 48 + 0 + 0 ≤ 7293034 by omega⟩) hS (fun q _ h => h.elim) (fun q h => h.elim) (fun r_19 w9 t9 H1 locs ht hvm hw9 hB hz1 hk1 hS => ?_)
        obtain rfl : H = H1 := hB.symm.trans ht
        have hw9 : r_19 = 3 := hw9
        subst hw9
        clear hPc hz1 hk1 hB
        refine lv_iload hx hb d_law_1170 (lv_at hl 1 rfl) ?_
        refine lv_icmp_eq (tgt := 1177) hx hb d_law_1172 (by decide) (fun c_20 => ?_) (fun c_20 => ?_)
        · -- taken
          refine lv_iload hx hb d_law_1177 (lv_at hl 1 rfl) ?_
          refine lv_if_ne (tgt := 1194) hx hb d_law_1179 (by decide) (fun c_21 => ?_) (fun c_21 => ?_)
          · -- taken
            refine lv_goto (tgt := 1965) hx hb d_law_1194 (by decide) ?_
            refine W.widen (k := cells + 20) (n := slots + 200) (by omega) (by omega) ?_
            have hI9 : LI dC dI cJ cI cR A out b0 m0 H := LG.mk hP hD hR
            exact cont _ _ _ hS hI9 (lv_sub hl [2, 3, 4, 5, 6] rfl)
          · -- not taken
            exact absurd c_21 (by decide)
        · -- not taken
          exact absurd c_20 (by decide)
  refine lv_aload_n hx hb d_law_927 rfl (lv_at hl 3 rfl) ?_
  refine lv_aload_n hx hb d_law_928 rfl (lv_at hl 4 rfl) ?_
  refine lv_iload hx hb d_law_929 (lv_at hl 0 rfl) ?_
  refine lv_iconst (v := 1) hx hb d_law_931 (by decide) ?_
  refine lv_iadd hx hb d_law_932 ?_
  rw [show ((nI i) + 1 : Int32) = nI (i + 1) from nI_add _ 1]
  refine va_sld hx hb hX hbl hbA hS (vp_in_nI (by omega) (by omega)) d_law_933 ?_
  rw [show (xs (nI (i + 1)).toNatClampNeg : Int32) = xs (i + 1) from by rw [nI_clamp (by omega)]]
  rw [show (xs (i + 1) : Int32) = x1 from hx1.symm]
  refine lv_aload_n hx hb d_law_934 rfl (lv_at hl 4 rfl) ?_
  refine lv_iload hx hb d_law_935 (lv_at hl 0 rfl) ?_
  refine lv_iconst (v := 2) hx hb d_law_937 (by decide) ?_
  refine lv_iadd hx hb d_law_938 ?_
  rw [show ((nI i) + 2 : Int32) = nI (i + 2) from nI_add _ 2]
  refine va_sld hx hb hX hbl hbA hS (vp_in_nI (by omega) (by omega)) d_law_939 ?_
  rw [show (xs (nI (i + 2)).toNatClampNeg : Int32) = xs (i + 2) from by rw [nI_clamp (by omega)]]
  rw [show (xs (i + 2) : Int32) = x2 from hx2.symm]
  refine lv_if_eq (tgt := 947) hx hb d_law_940 (by decide) (fun c_22 => ?_) (fun c_22 => ?_)
  · -- taken
    exact absurd c_22 (by rw [hx2]; exact hx0)
  · -- not taken
    refine lv_iconst (v := 1) hx hb d_law_943 (by decide) ?_
    refine lv_goto (tgt := 948) hx hb d_law_944 (by decide) ?_
    refine lv_aload_n hx hb d_law_948 rfl (lv_at hl 4 rfl) ?_
    refine lv_iload hx hb d_law_949 (lv_at hl 0 rfl) ?_
    refine lv_iconst (v := 3) hx hb d_law_951 (by decide) ?_
    refine lv_iadd hx hb d_law_952 ?_
    rw [show ((nI i) + 3 : Int32) = nI (i + 3) from nI_add _ 3]
    refine va_sld hx hb hX hbl hbA hS (vp_in_nI (by omega) (by omega)) d_law_953 ?_
    rw [show (xs (nI (i + 3)).toNatClampNeg : Int32) = xs (i + 3) from by rw [nI_clamp (by omega)]]
    refine lv_i2l (v := (xs (i + 3) : Int32).toInt64) hx hb d_law_954 rfl ?_
    refine lv_bipush (v := 32) hx hb d_law_955 (by decide) ?_
    refine lv_lshl (v := ((xs (i + 3) : Int32).toInt64 : Int64) <<< ((32 : Int32).toInt64 &&& 63)) hx hb d_law_957 rfl ?_
    refine lv_aload_n hx hb d_law_958 rfl (lv_at hl 4 rfl) ?_
    refine lv_iload hx hb d_law_959 (lv_at hl 0 rfl) ?_
    refine lv_iconst (v := 4) hx hb d_law_961 (by decide) ?_
    refine lv_iadd hx hb d_law_962 ?_
    rw [show ((nI i) + 4 : Int32) = nI (i + 4) from nI_add _ 4]
    refine va_sld hx hb hX hbl hbA hS (vp_in_nI (by omega) (by omega)) d_law_963 ?_
    rw [show (xs (nI (i + 4)).toNatClampNeg : Int32) = xs (i + 4) from by rw [nI_clamp (by omega)]]
    refine lv_i2l (v := (xs (i + 4) : Int32).toInt64) hx hb d_law_964 rfl ?_
    refine lv_ldc2 (v := 4294967295) hx hb hown (hts _ (List.mem_cons_of_mem _ gk_1202)) d_law_965 ?_
    refine lv_land hx hb d_law_968 ?_
    refine lv_lor hx hb d_law_969 ?_
    rw [show ((((xs (i + 3) : Int32).toInt64 : Int64) <<< ((32 : Int32).toInt64 &&& 63)) ||| (((xs (i + 4) : Int32).toInt64) &&& 4294967295) : Int64) = x3 from hx3.symm]
    refine lv_aload_n hx hb d_law_970 rfl (lv_at hl 4 rfl) ?_
    refine lv_iload hx hb d_law_971 (lv_at hl 0 rfl) ?_
    refine lv_iconst (v := 5) hx hb d_law_973 (by decide) ?_
    refine lv_iadd hx hb d_law_974 ?_
    rw [show ((nI i) + 5 : Int32) = nI (i + 5) from nI_add _ 5]
    refine va_sld hx hb hX hbl hbA hS (vp_in_nI (by omega) (by omega)) d_law_975 ?_
    rw [show (xs (nI (i + 5)).toNatClampNeg : Int32) = xs (i + 5) from by rw [nI_clamp (by omega)]]
    refine lv_i2l (v := (xs (i + 5) : Int32).toInt64) hx hb d_law_976 rfl ?_
    refine lv_bipush (v := 32) hx hb d_law_977 (by decide) ?_
    refine lv_lshl (v := ((xs (i + 5) : Int32).toInt64 : Int64) <<< ((32 : Int32).toInt64 &&& 63)) hx hb d_law_979 rfl ?_
    refine lv_aload_n hx hb d_law_980 rfl (lv_at hl 4 rfl) ?_
    refine lv_iload hx hb d_law_981 (lv_at hl 0 rfl) ?_
    refine lv_bipush (v := 6) hx hb d_law_983 (by decide) ?_
    refine lv_iadd hx hb d_law_985 ?_
    rw [show ((nI i) + 6 : Int32) = nI (i + 6) from nI_add _ 6]
    refine va_sld hx hb hX hbl hbA hS (vp_in_nI (by omega) (by omega)) d_law_986 ?_
    rw [show (xs (nI (i + 6)).toNatClampNeg : Int32) = xs (i + 6) from by rw [nI_clamp (by omega)]]
    refine lv_i2l (v := (xs (i + 6) : Int32).toInt64) hx hb d_law_987 rfl ?_
    refine lv_ldc2 (v := 4294967295) hx hb hown (hts _ (List.mem_cons_of_mem _ gk_1202)) d_law_988 ?_
    refine lv_land hx hb d_law_991 ?_
    refine lv_lor hx hb d_law_992 ?_
    rw [show ((((xs (i + 5) : Int32).toInt64 : Int64) <<< ((32 : Int32).toInt64 &&& 63)) ||| (((xs (i + 6) : Int32).toInt64) &&& 4294967295) : Int64) = x4 from hx4.symm]
    refine lv_aload_n hx hb d_law_993 rfl (lv_at hl 4 rfl) ?_
    refine lv_iload hx hb d_law_994 (lv_at hl 0 rfl) ?_
    refine lv_bipush (v := 7) hx hb d_law_996 (by decide) ?_
    refine lv_iadd hx hb d_law_998 ?_
    rw [show ((nI i) + 7 : Int32) = nI (i + 7) from nI_add _ 7]
    refine va_sld hx hb hX hbl hbA hS (vp_in_nI (by omega) (by omega)) d_law_999 ?_
    rw [show (xs (nI (i + 7)).toNatClampNeg : Int32) = xs (i + 7) from by rw [nI_clamp (by omega)]]
    refine lv_i2l (v := (xs (i + 7) : Int32).toInt64) hx hb d_law_1000 rfl ?_
    refine lv_bipush (v := 32) hx hb d_law_1001 (by decide) ?_
    refine lv_lshl (v := ((xs (i + 7) : Int32).toInt64 : Int64) <<< ((32 : Int32).toInt64 &&& 63)) hx hb d_law_1003 rfl ?_
    refine lv_aload_n hx hb d_law_1004 rfl (lv_at hl 4 rfl) ?_
    refine lv_iload hx hb d_law_1005 (lv_at hl 0 rfl) ?_
    refine lv_bipush (v := 8) hx hb d_law_1007 (by decide) ?_
    refine lv_iadd hx hb d_law_1009 ?_
    rw [show ((nI i) + 8 : Int32) = nI (i + 8) from nI_add _ 8]
    refine va_sld hx hb hX hbl hbA hS (vp_in_nI (by omega) (by omega)) d_law_1010 ?_
    rw [show (xs (nI (i + 8)).toNatClampNeg : Int32) = xs (i + 8) from by rw [nI_clamp (by omega)]]
    refine lv_i2l (v := (xs (i + 8) : Int32).toInt64) hx hb d_law_1011 rfl ?_
    refine lv_ldc2 (v := 4294967295) hx hb hown (hts _ (List.mem_cons_of_mem _ gk_1202)) d_law_1012 ?_
    refine lv_land hx hb d_law_1015 ?_
    refine lv_lor hx hb d_law_1016 ?_
    rw [show ((((xs (i + 7) : Int32).toInt64 : Int64) <<< ((32 : Int32).toInt64 &&& 63)) ||| (((xs (i + 8) : Int32).toInt64) &&& 4294967295) : Int64) = x5 from hx5.symm]
    refine lv_aload_n hx hb d_law_1017 rfl (lv_at hl 4 rfl) ?_
    refine lv_iload hx hb d_law_1018 (lv_at hl 0 rfl) ?_
    refine lv_bipush (v := 9) hx hb d_law_1020 (by decide) ?_
    refine lv_iadd hx hb d_law_1022 ?_
    rw [show ((nI i) + 9 : Int32) = nI (i + 9) from nI_add _ 9]
    refine va_sld hx hb hX hbl hbA hS (vp_in_nI (by omega) (by omega)) d_law_1023 ?_
    rw [show (xs (nI (i + 9)).toNatClampNeg : Int32) = xs (i + 9) from by rw [nI_clamp (by omega)]]
    refine lv_i2l (v := (xs (i + 9) : Int32).toInt64) hx hb d_law_1024 rfl ?_
    refine lv_bipush (v := 32) hx hb d_law_1025 (by decide) ?_
    refine lv_lshl (v := ((xs (i + 9) : Int32).toInt64 : Int64) <<< ((32 : Int32).toInt64 &&& 63)) hx hb d_law_1027 rfl ?_
    refine lv_aload_n hx hb d_law_1028 rfl (lv_at hl 4 rfl) ?_
    refine lv_iload hx hb d_law_1029 (lv_at hl 0 rfl) ?_
    refine lv_bipush (v := 10) hx hb d_law_1031 (by decide) ?_
    refine lv_iadd hx hb d_law_1033 ?_
    rw [show ((nI i) + 10 : Int32) = nI (i + 10) from nI_add _ 10]
    refine va_sld hx hb hX hbl hbA hS (vp_in_nI (by omega) (by omega)) d_law_1034 ?_
    rw [show (xs (nI (i + 10)).toNatClampNeg : Int32) = xs (i + 10) from by rw [nI_clamp (by omega)]]
    refine lv_i2l (v := (xs (i + 10) : Int32).toInt64) hx hb d_law_1035 rfl ?_
    refine lv_ldc2 (v := 4294967295) hx hb hown (hts _ (List.mem_cons_of_mem _ gk_1202)) d_law_1036 ?_
    refine lv_land hx hb d_law_1039 ?_
    refine lv_lor hx hb d_law_1040 ?_
    rw [show ((((xs (i + 9) : Int32).toInt64 : Int64) <<< ((32 : Int32).toInt64 &&& 63)) ||| (((xs (i + 10) : Int32).toInt64) &&& 4294967295) : Int64) = x6 from hx6.symm]
    refine lv_aload_n hx hb d_law_1041 rfl (lv_at hl 1 rfl) ?_
    have hPc := hP.part (cx := (jw_ws out cJ 1 of ++ (bb_ws b0 bd0 pr0 t0 au0 da (.ref g0) ++ (rw_ws da cJ (r8 d0 d1 d2 d3 d4 d5 d6 d7) ++ (bd_ws bd0 h0 ro lo n cR (rrf rb) (rrf lb) ++ (pr_ws pr0 h0 cm cJ ccf ++ (ha_ws h0 aw ax ay cJ cI w csc cst cL ++ (tt_ws t0 ka aa ba sa (.ref g0) cJ T ++ gp_ws g0 mF mE P f1 k1 Q f2 k2 G)))))))) [0, 1, 2, 3, 4, 5, 6, 7, 8, 9, 10, 11, 12, 13, 14, 15, 16, 23, 24, 25] rfl
    have hDc := hD.part (cx := (jw_ws out cJ 1 of ++ (bb_ws b0 bd0 pr0 t0 au0 da (.ref g0) ++ (rw_ws da cJ (r8 d0 d1 d2 d3 d4 d5 d6 d7) ++ (bd_ws bd0 h0 ro lo n cR (rrf rb) (rrf lb) ++ (pr_ws pr0 h0 cm cJ ccf ++ (ha_ws h0 aw ax ay cJ cI w csc cst cL ++ (tt_ws t0 ka aa ba sa (.ref g0) cJ T ++ gp_ws g0 mF mE P f1 k1 Q f2 k2 G)))))))) [0, 1, 2, 3, 4, 5, 6, 7, 8, 9, 10, 11, 12, 13, 14, 15, 16, 23, 24, 25] (by decide) rfl
    have hKc := hK.sub (tys' := [(cJ, .long), (cI, .int), (cR, .array .long)]) [0, 1, 2] rfl
    have hFc := va_freeP (cx := (jw_ws out cJ 1 of ++ (bb_ws b0 bd0 pr0 t0 au0 da (.ref g0) ++ (rw_ws da cJ (r8 d0 d1 d2 d3 d4 d5 d6 d7) ++ (bd_ws bd0 h0 ro lo n cR (rrf rb) (rrf lb) ++ (pr_ws pr0 h0 cm cJ ccf ++ (ha_ws h0 aw ax ay cJ cI w csc cst cL ++ (tt_ws t0 ka aa ba sa (.ref g0) cJ T ++ gp_ws g0 mF mE P f1 k1 Q f2 k2 G)))))))) hD hS hA [0, 1, 2, 3, 4, 5, 6, 7, 8, 9, 10, 11, 12, 13, 14, 15, 16, 23, 24, 25] rfl
    have hZc0 : ha_Z rA sA (va_A ((jw_ws out cJ 1 of ++ (bb_ws b0 bd0 pr0 t0 au0 da (.ref g0) ++ (rw_ws da cJ (r8 d0 d1 d2 d3 d4 d5 d6 d7) ++ (bd_ws bd0 h0 ro lo n cR (rrf rb) (rrf lb) ++ (pr_ws pr0 h0 cm cJ ccf ++ (ha_ws h0 aw ax ay cJ cI w csc cst cL ++ (tt_ws t0 ka aa ba sa (.ref g0) cJ T ++ gp_ws g0 mF mE P f1 k1 Q f2 k2 G))))))) ++ bpool rb lb cJ R Lk) H.size) s H := (hZha.kept hS.2.1).narrow hFc
    have hZc1 : xz (va_A ((jw_ws out cJ 1 of ++ (bb_ws b0 bd0 pr0 t0 au0 da (.ref g0) ++ (rw_ws da cJ (r8 d0 d1 d2 d3 d4 d5 d6 d7) ++ (bd_ws bd0 h0 ro lo n cR (rrf rb) (rrf lb) ++ (pr_ws pr0 h0 cm cJ ccf ++ (ha_ws h0 aw ax ay cJ cI w csc cst cL ++ (tt_ws t0 ka aa ba sa (.ref g0) cJ T ++ gp_ws g0 mF mE P f1 k1 Q f2 k2 G))))))) ++ bpool rb lb cJ R Lk) H.size) s H := (hZx.kept hS.2.1).narrow hFc
    have hZc2 : nc_Z s := hZn
    refine vx_calli (vx_runSX (hh := h_Lw_makeBallot) (As := [.ref b0, .int x1, .int 1, .long x3, .long x4, .long x5, .long x6, .ref out]) (rest := []) ⟨hx, hb, hml, hown, hts⟩ (c_Lw_makeBallot_10 l hnt dC dI cJ cI cR H.size b0 bd0 pr0 t0 au0 da h0 ro lo n rb lb cm ccf aw ax ay w csc cst cL ka aa ba sa T g0 mF mE P f1 k1 Q f2 k2 G rA sA R Lk d0 d1 d2 d3 d4 d5 d6 d7 x1 1 x3 x4 x5 x6 out of hok htok hN0 htn hkc hn hn0B hkq (by decide) hC1 hn9 hC3) (vx_cwSW 8 hts (gw_Sv gk_667 gk_668 gk_0 gk_669) rfl rfl rfl (by decide +kernel) ⟨(Nat.le_of_ble_eq_true rfl), (Nat.le_of_ble_eq_true rfl)⟩) ⟨fun a U g mk q => by obtain ⟨q0, q1, qP, qK, qD, qZ0, qZ1, qZ2⟩ := q; exact ⟨q0, q1, qP, va_K.moved (u := U) (U := U.calling g mk a) (Vm.Alike.refl U.vm) qK, qD, ha_Z.moved (u := U) (U := U.calling g mk a) (Vm.Alike.refl U.vm) qZ0, xz.same (u := U) (U := U.calling g mk a) rfl qZ1, nc_Z.moved (u := U) (U := U.calling g mk a) (Vm.Alike.refl U.vm) qZ2⟩, fun U hU hW => ⟨rfl, by rw [hU], by rw [hU]; exact hPc, va_K.moved hW.alike hKc, hDc.weaken (fun _ _ _ _ => trivial), by rw [hU]; exact ha_Z.moved hW.alike hZc0, by rw [hU]; exact xz.warm hW hZc1, nc_Z.moved hW.alike hZc2⟩⟩ rfl rfl hl.1 rfl (lv_room (Nat.le_of_ble_eq_true rfl)) d_law_1042 ⟨show cells + 8 ≤ 601024 by omega, show slots + 48 ≤ 7293034 by omega⟩) hS (fun q _ h => hFc q h) hFc (fun q _ h => hFc q h) (fun E9 ce9 q9 u8 t9 H1 locs ht hvm hpx hbx hz1 hk1 hS hce hcv hcl => hpx.elim) (fun r_23 u9 t9 H1 locs ht hvm hw hB hz1 hk1 hS => ?_)
    obtain ⟨hP1, hK1, hD1⟩ := hB
    rw [ht] at hP1
    obtain ⟨hP, hD⟩ := va_joinP (X := (jw_ws out cJ 1 of ++ (bb_ws b0 bd0 pr0 t0 au0 da (.ref g0) ++ (rw_ws da cJ (r8 d0 d1 d2 d3 d4 d5 d6 d7) ++ (bd_ws bd0 h0 ro lo n cR (rrf rb) (rrf lb) ++ (pr_ws pr0 h0 cm cJ ccf ++ (ha_ws h0 aw ax ay cJ cI w csc cst cL ++ (tt_ws t0 ka aa ba sa (.ref g0) cJ T ++ (au_ws au0 bd0 pr0 tu0 sd ++ (tt_ws tu0 uka uaa uba usa gu cJ T0 ++ (gp_ws g0 mF mE P f1 k1 Q f2 k2 G ++ (mo_ws m0 e0 (nI (t_tn T)) (nI n) (nI (t_bc T)) (lN P) (lN Q) (lN G) (lN (ckey (t_tn T) (t_kc T) (t_kp T))) (lN (t_pa T)) (lN (t_pb T)) (t_sht T) a0 a1 a2 a3 a4 a5 a6 a7 a8 a9 mb0 mb1 oc mb2 mb3 mb4 mb5 ++ (iw_ws a7 cI 256 bf ++ (iw_ws a8 cI 64 sc ++ (iw_ws a9 cI 8 st ++ (iw_ws mb0 cI 8 kS ++ (iw_ws mb1 cI 64 kR ++ (jw_ws a2 cJ 4 tf ++ (jw_ws a0 cJ 1232 nf ++ (jw_ws a1 cJ 616 cf ++ (iw_ws a4 cI 4 kf ++ (jw_ws mb2 cJ 4 ky ++ (jw_ws a3 cJ 16 lf ++ (iw_ws a5 cI 4 sf ++ (iw_ws a6 cI 64 vf ++ (jw_ws mb3 cJ 128 md ++ (jw_ws mb4 cJ 4 sh ++ iw_ws mb5 cI 64 ct))))))))))))))))))))))))))) (cx := (jw_ws out cJ 1 of ++ (bb_ws b0 bd0 pr0 t0 au0 da (.ref g0) ++ (rw_ws da cJ (r8 d0 d1 d2 d3 d4 d5 d6 d7) ++ (bd_ws bd0 h0 ro lo n cR (rrf rb) (rrf lb) ++ (pr_ws pr0 h0 cm cJ ccf ++ (ha_ws h0 aw ax ay cJ cI w csc cst cL ++ (tt_ws t0 ka aa ba sa (.ref g0) cJ T ++ gp_ws g0 mF mE P f1 k1 Q f2 k2 G)))))))) (wr := (au_ws au0 bd0 pr0 tu0 sd ++ (tt_ws tu0 uka uaa uba usa gu cJ T0 ++ (mo_ws m0 e0 (nI (t_tn T)) (nI n) (nI (t_bc T)) (lN P) (lN Q) (lN G) (lN (ckey (t_tn T) (t_kc T) (t_kp T))) (lN (t_pa T)) (lN (t_pb T)) (t_sht T) a0 a1 a2 a3 a4 a5 a6 a7 a8 a9 mb0 mb1 oc mb2 mb3 mb4 mb5 ++ (iw_ws a7 cI 256 bf ++ (iw_ws a8 cI 64 sc ++ (iw_ws a9 cI 8 st ++ (iw_ws mb0 cI 8 kS ++ (iw_ws mb1 cI 64 kR ++ (jw_ws a2 cJ 4 tf ++ (jw_ws a0 cJ 1232 nf ++ (jw_ws a1 cJ 616 cf ++ (iw_ws a4 cI 4 kf ++ (jw_ws mb2 cJ 4 ky ++ (jw_ws a3 cJ 16 lf ++ (iw_ws a5 cI 4 sf ++ (iw_ws a6 cI 64 vf ++ (jw_ws mb3 cJ 128 md ++ (jw_ws mb4 cJ 4 sh ++ iw_ws mb5 cI 64 ct))))))))))))))))))) (rx := (jw_ws out cJ 1 (vp_updL of 0 (lN n)) ++ (bb_ws b0 bd0 pr0 t0 au0 da (.ref g0) ++ (rw_ws da cJ (r8 (lN 2) (lN u9.1) (lN (G ^ u9.2.1 % P)) (lN (((ckey (t_tn T) (t_kc T) (t_kp T)) ^ u9.2.1 % P) * G % P)) (lN u9.2.2.2.1) (lN u9.2.2.2.2.1) (lN ((hsh Q [lN P, lN G, lN 2, lN u9.1, lN (G ^ u9.2.1 % P), lN (((ckey (t_tn T) (t_kc T) (t_kp T)) ^ u9.2.1 % P) * G % P), lN (G ^ u9.2.2.2.2.1 * (G ^ u9.2.1 % P) ^ ((Q - u9.2.2.2.1) % Q) % P), lN ((ckey (t_tn T) (t_kc T) (t_kp T)) ^ u9.2.2.2.2.1 * (((ckey (t_tn T) (t_kc T) (t_kp T)) ^ u9.2.1 % P) * G % P) ^ ((Q - u9.2.2.2.1) % Q) % P), lN (G ^ u9.2.2.1 % P), lN ((ckey (t_tn T) (t_kc T) (t_kp T)) ^ u9.2.2.1 % P)] + (Q - u9.2.2.2.1)) % Q)) (lN ((u9.2.2.1 + ((hsh Q [lN P, lN G, lN 2, lN u9.1, lN (G ^ u9.2.1 % P), lN (((ckey (t_tn T) (t_kc T) (t_kp T)) ^ u9.2.1 % P) * G % P), lN (G ^ u9.2.2.2.2.1 * (G ^ u9.2.1 % P) ^ ((Q - u9.2.2.2.1) % Q) % P), lN ((ckey (t_tn T) (t_kc T) (t_kp T)) ^ u9.2.2.2.2.1 * (((ckey (t_tn T) (t_kc T) (t_kp T)) ^ u9.2.1 % P) * G % P) ^ ((Q - u9.2.2.2.1) % Q) % P), lN (G ^ u9.2.2.1 % P), lN ((ckey (t_tn T) (t_kc T) (t_kp T)) ^ u9.2.2.1 % P)] + (Q - u9.2.2.2.1)) % Q) * u9.2.1 % Q) % Q))) ++ (bd_ws bd0 h0 ro lo (n + 1) cR (rrf rb) (rrf lb) ++ (pr_ws pr0 h0 cm cJ u9.2.2.2.2.2.1 ++ (hu_ws h0 aw ax ay cJ cI u9.2.2.2.2.2.2 ++ (tt_ws t0 ka aa ba sa (.ref g0) cJ (tBal u9.1 (vN (lN (G ^ u9.2.1 % P))) (vN (lN (((ckey (t_tn T) (t_kc T) (t_kp T)) ^ u9.2.1 % P) * G % P))) T) ++ gp_ws g0 mF mE P f1 k1 Q f2 k2 G)))))))) (pl := bpool rb lb cJ R Lk) (pl1 := bpool rb lb cJ (updF R n (r8 (lN 2) (lN u9.1) (lN (G ^ u9.2.1 % P)) (lN (((ckey (t_tn T) (t_kc T) (t_kp T)) ^ u9.2.1 % P) * G % P)) (lN u9.2.2.2.1) (lN u9.2.2.2.2.1) (lN ((hsh Q [lN P, lN G, lN 2, lN u9.1, lN (G ^ u9.2.1 % P), lN (((ckey (t_tn T) (t_kc T) (t_kp T)) ^ u9.2.1 % P) * G % P), lN (G ^ u9.2.2.2.2.1 * (G ^ u9.2.1 % P) ^ ((Q - u9.2.2.2.1) % Q) % P), lN ((ckey (t_tn T) (t_kc T) (t_kp T)) ^ u9.2.2.2.2.1 * (((ckey (t_tn T) (t_kc T) (t_kp T)) ^ u9.2.1 % P) * G % P) ^ ((Q - u9.2.2.2.1) % Q) % P), lN (G ^ u9.2.2.1 % P), lN ((ckey (t_tn T) (t_kc T) (t_kp T)) ^ u9.2.2.1 % P)] + (Q - u9.2.2.2.1)) % Q)) (lN ((u9.2.2.1 + ((hsh Q [lN P, lN G, lN 2, lN u9.1, lN (G ^ u9.2.1 % P), lN (((ckey (t_tn T) (t_kc T) (t_kp T)) ^ u9.2.1 % P) * G % P), lN (G ^ u9.2.2.2.2.1 * (G ^ u9.2.1 % P) ^ ((Q - u9.2.2.2.1) % Q) % P), lN ((ckey (t_tn T) (t_kc T) (t_kp T)) ^ u9.2.2.2.2.1 * (((ckey (t_tn T) (t_kc T) (t_kp T)) ^ u9.2.1 % P) * G % P) ^ ((Q - u9.2.2.2.1) % Q) % P), lN (G ^ u9.2.2.1 % P), lN ((ckey (t_tn T) (t_kc T) (t_kp T)) ^ u9.2.2.1 % P)] + (Q - u9.2.2.2.1)) % Q) * u9.2.1 % Q) % Q)))) (updF Lk n (lkw (msgL 2 n (r8 (lN 2) (lN u9.1) (lN (G ^ u9.2.1 % P)) (lN (((ckey (t_tn T) (t_kc T) (t_kp T)) ^ u9.2.1 % P) * G % P)) (lN u9.2.2.2.1) (lN u9.2.2.2.2.1) (lN ((hsh Q [lN P, lN G, lN 2, lN u9.1, lN (G ^ u9.2.1 % P), lN (((ckey (t_tn T) (t_kc T) (t_kp T)) ^ u9.2.1 % P) * G % P), lN (G ^ u9.2.2.2.2.1 * (G ^ u9.2.1 % P) ^ ((Q - u9.2.2.2.1) % Q) % P), lN ((ckey (t_tn T) (t_kc T) (t_kp T)) ^ u9.2.2.2.2.1 * (((ckey (t_tn T) (t_kc T) (t_kp T)) ^ u9.2.1 % P) * G % P) ^ ((Q - u9.2.2.2.1) % Q) % P), lN (G ^ u9.2.2.1 % P), lN ((ckey (t_tn T) (t_kc T) (t_kp T)) ^ u9.2.2.1 % P)] + (Q - u9.2.2.2.1)) % Q)) (lN ((u9.2.2.1 + ((hsh Q [lN P, lN G, lN 2, lN u9.1, lN (G ^ u9.2.1 % P), lN (((ckey (t_tn T) (t_kc T) (t_kp T)) ^ u9.2.1 % P) * G % P), lN (G ^ u9.2.2.2.2.1 * (G ^ u9.2.1 % P) ^ ((Q - u9.2.2.2.1) % Q) % P), lN ((ckey (t_tn T) (t_kc T) (t_kp T)) ^ u9.2.2.2.2.1 * (((ckey (t_tn T) (t_kc T) (t_kp T)) ^ u9.2.1 % P) * G % P) ^ ((Q - u9.2.2.2.1) % Q) % P), lN (G ^ u9.2.2.1 % P), lN ((ckey (t_tn T) (t_kc T) (t_kp T)) ^ u9.2.2.1 % P)] + (Q - u9.2.2.2.1)) % Q) * u9.2.1 % Q) % Q))) Lk)))) hP hD [0, 1, 2, 3, 4, 5, 6, 7, 8, 9, 10, 11, 12, 13, 14, 15, 16, 23, 24, 25] [17, 18, 19, 20, 21, 22, 26, 27, 28, 29, 30, 31, 32, 33, 34, 35, 36, 37, 38, 39, 40, 41, 42] rfl rfl (by decide) (by decide) hk1 hFc hP1 hD1
    have hP := hP.part (cx := (jw_ws out cJ 1 (vp_updL of 0 (lN n)) ++ (bb_ws b0 bd0 pr0 t0 au0 da (.ref g0) ++ (rw_ws da cJ (r8 (lN 2) (lN u9.1) (lN (G ^ u9.2.1 % P)) (lN (((ckey (t_tn T) (t_kc T) (t_kp T)) ^ u9.2.1 % P) * G % P)) (lN u9.2.2.2.1) (lN u9.2.2.2.2.1) (lN ((hsh Q [lN P, lN G, lN 2, lN u9.1, lN (G ^ u9.2.1 % P), lN (((ckey (t_tn T) (t_kc T) (t_kp T)) ^ u9.2.1 % P) * G % P), lN (G ^ u9.2.2.2.2.1 * (G ^ u9.2.1 % P) ^ ((Q - u9.2.2.2.1) % Q) % P), lN ((ckey (t_tn T) (t_kc T) (t_kp T)) ^ u9.2.2.2.2.1 * (((ckey (t_tn T) (t_kc T) (t_kp T)) ^ u9.2.1 % P) * G % P) ^ ((Q - u9.2.2.2.1) % Q) % P), lN (G ^ u9.2.2.1 % P), lN ((ckey (t_tn T) (t_kc T) (t_kp T)) ^ u9.2.2.1 % P)] + (Q - u9.2.2.2.1)) % Q)) (lN ((u9.2.2.1 + ((hsh Q [lN P, lN G, lN 2, lN u9.1, lN (G ^ u9.2.1 % P), lN (((ckey (t_tn T) (t_kc T) (t_kp T)) ^ u9.2.1 % P) * G % P), lN (G ^ u9.2.2.2.2.1 * (G ^ u9.2.1 % P) ^ ((Q - u9.2.2.2.1) % Q) % P), lN ((ckey (t_tn T) (t_kc T) (t_kp T)) ^ u9.2.2.2.2.1 * (((ckey (t_tn T) (t_kc T) (t_kp T)) ^ u9.2.1 % P) * G % P) ^ ((Q - u9.2.2.2.1) % Q) % P), lN (G ^ u9.2.2.1 % P), lN ((ckey (t_tn T) (t_kc T) (t_kp T)) ^ u9.2.2.1 % P)] + (Q - u9.2.2.2.1)) % Q) * u9.2.1 % Q) % Q))) ++ (bd_ws bd0 h0 ro lo (n + 1) cR (rrf rb) (rrf lb) ++ (pr_ws pr0 h0 cm cJ u9.2.2.2.2.2.1 ++ (hu_ws h0 aw ax ay cJ cI u9.2.2.2.2.2.2 ++ (tt_ws t0 ka aa ba sa (.ref g0) cJ (tBal u9.1 (vN (lN (G ^ u9.2.1 % P))) (vN (lN (((ckey (t_tn T) (t_kc T) (t_kp T)) ^ u9.2.1 % P) * G % P))) T) ++ (au_ws au0 bd0 pr0 tu0 sd ++ (tt_ws tu0 uka uaa uba usa gu cJ T0 ++ (gp_ws g0 mF mE P f1 k1 Q f2 k2 G ++ (mo_ws m0 e0 (nI (t_tn T)) (nI n) (nI (t_bc T)) (lN P) (lN Q) (lN G) (lN (ckey (t_tn T) (t_kc T) (t_kp T))) (lN (t_pa T)) (lN (t_pb T)) (t_sht T) a0 a1 a2 a3 a4 a5 a6 a7 a8 a9 mb0 mb1 oc mb2 mb3 mb4 mb5 ++ (iw_ws a7 cI 256 bf ++ (iw_ws a8 cI 64 sc ++ (iw_ws a9 cI 8 st ++ (iw_ws mb0 cI 8 kS ++ (iw_ws mb1 cI 64 kR ++ (jw_ws a2 cJ 4 tf ++ (jw_ws a0 cJ 1232 nf ++ (jw_ws a1 cJ 616 cf ++ (iw_ws a4 cI 4 kf ++ (jw_ws mb2 cJ 4 ky ++ (jw_ws a3 cJ 16 lf ++ (iw_ws a5 cI 4 sf ++ (iw_ws a6 cI 64 vf ++ (jw_ws mb3 cJ 128 md ++ (jw_ws mb4 cJ 4 sh ++ iw_ws mb5 cI 64 ct))))))))))))))))))))))))))) [23, 24, 25, 26, 27, 28, 29, 30, 31, 32, 33, 34, 35, 36, 37, 38, 39, 0, 1, 2, 3, 4, 5, 40, 41, 42, 6, 7, 8, 9, 10, 11, 12, 13, 14, 15, 16, 17, 18, 19, 20, 21, 22] rfl
    have hD := hD.part (cx := (jw_ws out cJ 1 (vp_updL of 0 (lN n)) ++ (bb_ws b0 bd0 pr0 t0 au0 da (.ref g0) ++ (rw_ws da cJ (r8 (lN 2) (lN u9.1) (lN (G ^ u9.2.1 % P)) (lN (((ckey (t_tn T) (t_kc T) (t_kp T)) ^ u9.2.1 % P) * G % P)) (lN u9.2.2.2.1) (lN u9.2.2.2.2.1) (lN ((hsh Q [lN P, lN G, lN 2, lN u9.1, lN (G ^ u9.2.1 % P), lN (((ckey (t_tn T) (t_kc T) (t_kp T)) ^ u9.2.1 % P) * G % P), lN (G ^ u9.2.2.2.2.1 * (G ^ u9.2.1 % P) ^ ((Q - u9.2.2.2.1) % Q) % P), lN ((ckey (t_tn T) (t_kc T) (t_kp T)) ^ u9.2.2.2.2.1 * (((ckey (t_tn T) (t_kc T) (t_kp T)) ^ u9.2.1 % P) * G % P) ^ ((Q - u9.2.2.2.1) % Q) % P), lN (G ^ u9.2.2.1 % P), lN ((ckey (t_tn T) (t_kc T) (t_kp T)) ^ u9.2.2.1 % P)] + (Q - u9.2.2.2.1)) % Q)) (lN ((u9.2.2.1 + ((hsh Q [lN P, lN G, lN 2, lN u9.1, lN (G ^ u9.2.1 % P), lN (((ckey (t_tn T) (t_kc T) (t_kp T)) ^ u9.2.1 % P) * G % P), lN (G ^ u9.2.2.2.2.1 * (G ^ u9.2.1 % P) ^ ((Q - u9.2.2.2.1) % Q) % P), lN ((ckey (t_tn T) (t_kc T) (t_kp T)) ^ u9.2.2.2.2.1 * (((ckey (t_tn T) (t_kc T) (t_kp T)) ^ u9.2.1 % P) * G % P) ^ ((Q - u9.2.2.2.1) % Q) % P), lN (G ^ u9.2.2.1 % P), lN ((ckey (t_tn T) (t_kc T) (t_kp T)) ^ u9.2.2.1 % P)] + (Q - u9.2.2.2.1)) % Q) * u9.2.1 % Q) % Q))) ++ (bd_ws bd0 h0 ro lo (n + 1) cR (rrf rb) (rrf lb) ++ (pr_ws pr0 h0 cm cJ u9.2.2.2.2.2.1 ++ (hu_ws h0 aw ax ay cJ cI u9.2.2.2.2.2.2 ++ (tt_ws t0 ka aa ba sa (.ref g0) cJ (tBal u9.1 (vN (lN (G ^ u9.2.1 % P))) (vN (lN (((ckey (t_tn T) (t_kc T) (t_kp T)) ^ u9.2.1 % P) * G % P))) T) ++ (au_ws au0 bd0 pr0 tu0 sd ++ (tt_ws tu0 uka uaa uba usa gu cJ T0 ++ (gp_ws g0 mF mE P f1 k1 Q f2 k2 G ++ (mo_ws m0 e0 (nI (t_tn T)) (nI n) (nI (t_bc T)) (lN P) (lN Q) (lN G) (lN (ckey (t_tn T) (t_kc T) (t_kp T))) (lN (t_pa T)) (lN (t_pb T)) (t_sht T) a0 a1 a2 a3 a4 a5 a6 a7 a8 a9 mb0 mb1 oc mb2 mb3 mb4 mb5 ++ (iw_ws a7 cI 256 bf ++ (iw_ws a8 cI 64 sc ++ (iw_ws a9 cI 8 st ++ (iw_ws mb0 cI 8 kS ++ (iw_ws mb1 cI 64 kR ++ (jw_ws a2 cJ 4 tf ++ (jw_ws a0 cJ 1232 nf ++ (jw_ws a1 cJ 616 cf ++ (iw_ws a4 cI 4 kf ++ (jw_ws mb2 cJ 4 ky ++ (jw_ws a3 cJ 16 lf ++ (iw_ws a5 cI 4 sf ++ (iw_ws a6 cI 64 vf ++ (jw_ws mb3 cJ 128 md ++ (jw_ws mb4 cJ 4 sh ++ iw_ws mb5 cI 64 ct))))))))))))))))))))))))))) [23, 24, 25, 26, 27, 28, 29, 30, 31, 32, 33, 34, 35, 36, 37, 38, 39, 0, 1, 2, 3, 4, 5, 40, 41, 42, 6, 7, 8, 9, 10, 11, 12, 13, 14, 15, 16, 17, 18, 19, 20, 21, 22] (by decide) rfl
    generalize H1 = H at hP hS ⊢
    clear hPc hDc hFc hP1 hD1 hK1 ht hk1 hz1
    have hr9 : r_23 = 0 := hw.1
    subst hr9
    have hw := hw.2
    obtain ⟨hxI, hI, ⟨hxR, hR9, hxW, hW9⟩, ⟨hxE, hE9, hxF, hF9⟩, _, _, _⟩ := hw
    have hs : ¬ t_sht T = 1 := fun q => hC1 (Or.inl q)
    have hkk : 0 < t_tn T ∧ t_kc T = t_tn T := Classical.byContradiction (fun q => hC1 (Or.inr q))
    have hn0 : 0 < n := hn0B hkk
    have hp1 : 1 < P := by omega
    have hKQ : (ckey (t_tn T) (t_kc T) (t_kp T)) ^ Q % P = 1 := by unfold ckey; rw [if_pos hkk]; exact hkq
    have hh := mk_yes hGQ hKQ hp1 (show 0 < Q by omega) u9.1 u9.2.1 u9.2.2.1 u9.2.2.2.1 u9.2.2.2.2.1 _ _ hE9 hF9 rfl rfl
    have q2 := bk_mul (X := G ^ u9.2.2.2.2.1) (in_pow hp1 hGQ u9.2.1) hE9
    have q3 := bk_mul (X := (ckey (t_tn T) (t_kc T) (t_kp T)) ^ u9.2.2.2.2.1) (in_mul hp1 (in_pow hp1 hKQ u9.2.1) hGQ) hE9
    refine lv_istore (lv' := [(5, .int 0), (4, .int (nI i)), (3, .ref out), (2, .ref m0), (1, .ref b0), (0, .ref b)]) hx hb d_law_1045 hl (by decide) rfl (fun ls hl => ?_)
    refine lv_aload_n hx hb d_law_1047 rfl (lv_at hl 3 rfl) ?_
    refine lv_aload_n hx hb d_law_1048 rfl (lv_at hl 5 rfl) ?_
    refine lv_iload hx hb d_law_1049 (lv_at hl 1 rfl) ?_
    refine lv_iconst (v := 1) hx hb d_law_1051 (by decide) ?_
    refine lv_iadd hx hb d_law_1052 ?_
    rw [show ((nI i) + 1 : Int32) = nI (i + 1) from nI_add _ 1]
    refine va_sld hx hb hX hbl hbA hS (vp_in_nI (by omega) (by omega)) d_law_1053 ?_
    rw [show (xs (nI (i + 1)).toNatClampNeg : Int32) = xs (i + 1) from by rw [nI_clamp (by omega)]]
    rw [show (xs (i + 1) : Int32) = nI u9.1 from (hx1.symm.trans hxI)]
    refine lv_aload_n hx hb d_law_1054 rfl (lv_at hl 5 rfl) ?_
    refine lv_iload hx hb d_law_1055 (lv_at hl 1 rfl) ?_
    refine lv_iconst (v := 2) hx hb d_law_1057 (by decide) ?_
    refine lv_iadd hx hb d_law_1058 ?_
    rw [show ((nI i) + 2 : Int32) = nI (i + 2) from nI_add _ 2]
    refine va_sld hx hb hX hbl hbA hS (vp_in_nI (by omega) (by omega)) d_law_1059 ?_
    rw [show (xs (nI (i + 2)).toNatClampNeg : Int32) = xs (i + 2) from by rw [nI_clamp (by omega)]]
    rw [show (xs (i + 2) : Int32) = x2 from hx2.symm]
    refine lv_if_eq (tgt := 1067) hx hb d_law_1060 (by decide) (fun c_24 => ?_) (fun c_24 => ?_)
    · -- taken
      exact absurd c_24 (by rw [hx2]; exact hx0)
    · -- not taken
      refine lv_iconst (v := 1) hx hb d_law_1063 (by decide) ?_
      refine lv_goto (tgt := 1068) hx hb d_law_1064 (by decide) ?_
      refine lv_aload_n hx hb d_law_1068 rfl (lv_at hl 5 rfl) ?_
      refine lv_iload hx hb d_law_1069 (lv_at hl 1 rfl) ?_
      refine lv_iconst (v := 3) hx hb d_law_1071 (by decide) ?_
      refine lv_iadd hx hb d_law_1072 ?_
      rw [show ((nI i) + 3 : Int32) = nI (i + 3) from nI_add _ 3]
      refine va_sld hx hb hX hbl hbA hS (vp_in_nI (by omega) (by omega)) d_law_1073 ?_
      rw [show (xs (nI (i + 3)).toNatClampNeg : Int32) = xs (i + 3) from by rw [nI_clamp (by omega)]]
      refine lv_i2l (v := (xs (i + 3) : Int32).toInt64) hx hb d_law_1074 rfl ?_
      refine lv_bipush (v := 32) hx hb d_law_1075 (by decide) ?_
      refine lv_lshl (v := ((xs (i + 3) : Int32).toInt64 : Int64) <<< ((32 : Int32).toInt64 &&& 63)) hx hb d_law_1077 rfl ?_
      refine lv_aload_n hx hb d_law_1078 rfl (lv_at hl 5 rfl) ?_
      refine lv_iload hx hb d_law_1079 (lv_at hl 1 rfl) ?_
      refine lv_iconst (v := 4) hx hb d_law_1081 (by decide) ?_
      refine lv_iadd hx hb d_law_1082 ?_
      rw [show ((nI i) + 4 : Int32) = nI (i + 4) from nI_add _ 4]
      refine va_sld hx hb hX hbl hbA hS (vp_in_nI (by omega) (by omega)) d_law_1083 ?_
      rw [show (xs (nI (i + 4)).toNatClampNeg : Int32) = xs (i + 4) from by rw [nI_clamp (by omega)]]
      refine lv_i2l (v := (xs (i + 4) : Int32).toInt64) hx hb d_law_1084 rfl ?_
      refine lv_ldc2 (v := 4294967295) hx hb hown (hts _ (List.mem_cons_of_mem _ gk_1202)) d_law_1085 ?_
      refine lv_land hx hb d_law_1088 ?_
      refine lv_lor hx hb d_law_1089 ?_
      rw [show ((((xs (i + 3) : Int32).toInt64 : Int64) <<< ((32 : Int32).toInt64 &&& 63)) ||| (((xs (i + 4) : Int32).toInt64) &&& 4294967295) : Int64) = lN u9.2.1 from (hx3.symm.trans hxR)]
      refine lv_aload_n hx hb d_law_1090 rfl (lv_at hl 5 rfl) ?_
      refine lv_iload hx hb d_law_1091 (lv_at hl 1 rfl) ?_
      refine lv_iconst (v := 5) hx hb d_law_1093 (by decide) ?_
      refine lv_iadd hx hb d_law_1094 ?_
      rw [show ((nI i) + 5 : Int32) = nI (i + 5) from nI_add _ 5]
      refine va_sld hx hb hX hbl hbA hS (vp_in_nI (by omega) (by omega)) d_law_1095 ?_
      rw [show (xs (nI (i + 5)).toNatClampNeg : Int32) = xs (i + 5) from by rw [nI_clamp (by omega)]]
      refine lv_i2l (v := (xs (i + 5) : Int32).toInt64) hx hb d_law_1096 rfl ?_
      refine lv_bipush (v := 32) hx hb d_law_1097 (by decide) ?_
      refine lv_lshl (v := ((xs (i + 5) : Int32).toInt64 : Int64) <<< ((32 : Int32).toInt64 &&& 63)) hx hb d_law_1099 rfl ?_
      refine lv_aload_n hx hb d_law_1100 rfl (lv_at hl 5 rfl) ?_
      refine lv_iload hx hb d_law_1101 (lv_at hl 1 rfl) ?_
      refine lv_bipush (v := 6) hx hb d_law_1103 (by decide) ?_
      refine lv_iadd hx hb d_law_1105 ?_
      rw [show ((nI i) + 6 : Int32) = nI (i + 6) from nI_add _ 6]
      refine va_sld hx hb hX hbl hbA hS (vp_in_nI (by omega) (by omega)) d_law_1106 ?_
      rw [show (xs (nI (i + 6)).toNatClampNeg : Int32) = xs (i + 6) from by rw [nI_clamp (by omega)]]
      refine lv_i2l (v := (xs (i + 6) : Int32).toInt64) hx hb d_law_1107 rfl ?_
      refine lv_ldc2 (v := 4294967295) hx hb hown (hts _ (List.mem_cons_of_mem _ gk_1202)) d_law_1108 ?_
      refine lv_land hx hb d_law_1111 ?_
      refine lv_lor hx hb d_law_1112 ?_
      rw [show ((((xs (i + 5) : Int32).toInt64 : Int64) <<< ((32 : Int32).toInt64 &&& 63)) ||| (((xs (i + 6) : Int32).toInt64) &&& 4294967295) : Int64) = lN u9.2.2.1 from (hx4.symm.trans hxW)]
      refine lv_aload_n hx hb d_law_1113 rfl (lv_at hl 5 rfl) ?_
      refine lv_iload hx hb d_law_1114 (lv_at hl 1 rfl) ?_
      refine lv_bipush (v := 7) hx hb d_law_1116 (by decide) ?_
      refine lv_iadd hx hb d_law_1118 ?_
      rw [show ((nI i) + 7 : Int32) = nI (i + 7) from nI_add _ 7]
      refine va_sld hx hb hX hbl hbA hS (vp_in_nI (by omega) (by omega)) d_law_1119 ?_
      rw [show (xs (nI (i + 7)).toNatClampNeg : Int32) = xs (i + 7) from by rw [nI_clamp (by omega)]]
      refine lv_i2l (v := (xs (i + 7) : Int32).toInt64) hx hb d_law_1120 rfl ?_
      refine lv_bipush (v := 32) hx hb d_law_1121 (by decide) ?_
      refine lv_lshl (v := ((xs (i + 7) : Int32).toInt64 : Int64) <<< ((32 : Int32).toInt64 &&& 63)) hx hb d_law_1123 rfl ?_
      refine lv_aload_n hx hb d_law_1124 rfl (lv_at hl 5 rfl) ?_
      refine lv_iload hx hb d_law_1125 (lv_at hl 1 rfl) ?_
      refine lv_bipush (v := 8) hx hb d_law_1127 (by decide) ?_
      refine lv_iadd hx hb d_law_1129 ?_
      rw [show ((nI i) + 8 : Int32) = nI (i + 8) from nI_add _ 8]
      refine va_sld hx hb hX hbl hbA hS (vp_in_nI (by omega) (by omega)) d_law_1130 ?_
      rw [show (xs (nI (i + 8)).toNatClampNeg : Int32) = xs (i + 8) from by rw [nI_clamp (by omega)]]
      refine lv_i2l (v := (xs (i + 8) : Int32).toInt64) hx hb d_law_1131 rfl ?_
      refine lv_ldc2 (v := 4294967295) hx hb hown (hts _ (List.mem_cons_of_mem _ gk_1202)) d_law_1132 ?_
      refine lv_land hx hb d_law_1135 ?_
      refine lv_lor hx hb d_law_1136 ?_
      rw [show ((((xs (i + 7) : Int32).toInt64 : Int64) <<< ((32 : Int32).toInt64 &&& 63)) ||| (((xs (i + 8) : Int32).toInt64) &&& 4294967295) : Int64) = lN u9.2.2.2.1 from (hx5.symm.trans hxE)]
      refine lv_aload_n hx hb d_law_1137 rfl (lv_at hl 5 rfl) ?_
      refine lv_iload hx hb d_law_1138 (lv_at hl 1 rfl) ?_
      refine lv_bipush (v := 9) hx hb d_law_1140 (by decide) ?_
      refine lv_iadd hx hb d_law_1142 ?_
      rw [show ((nI i) + 9 : Int32) = nI (i + 9) from nI_add _ 9]
      refine va_sld hx hb hX hbl hbA hS (vp_in_nI (by omega) (by omega)) d_law_1143 ?_
      rw [show (xs (nI (i + 9)).toNatClampNeg : Int32) = xs (i + 9) from by rw [nI_clamp (by omega)]]
      refine lv_i2l (v := (xs (i + 9) : Int32).toInt64) hx hb d_law_1144 rfl ?_
      refine lv_bipush (v := 32) hx hb d_law_1145 (by decide) ?_
      refine lv_lshl (v := ((xs (i + 9) : Int32).toInt64 : Int64) <<< ((32 : Int32).toInt64 &&& 63)) hx hb d_law_1147 rfl ?_
      refine lv_aload_n hx hb d_law_1148 rfl (lv_at hl 5 rfl) ?_
      refine lv_iload hx hb d_law_1149 (lv_at hl 1 rfl) ?_
      refine lv_bipush (v := 10) hx hb d_law_1151 (by decide) ?_
      refine lv_iadd hx hb d_law_1153 ?_
      rw [show ((nI i) + 10 : Int32) = nI (i + 10) from nI_add _ 10]
      refine va_sld hx hb hX hbl hbA hS (vp_in_nI (by omega) (by omega)) d_law_1154 ?_
      rw [show (xs (nI (i + 10)).toNatClampNeg : Int32) = xs (i + 10) from by rw [nI_clamp (by omega)]]
      refine lv_i2l (v := (xs (i + 10) : Int32).toInt64) hx hb d_law_1155 rfl ?_
      refine lv_ldc2 (v := 4294967295) hx hb hown (hts _ (List.mem_cons_of_mem _ gk_1202)) d_law_1156 ?_
      refine lv_land hx hb d_law_1159 ?_
      refine lv_lor hx hb d_law_1160 ?_
      rw [show ((((xs (i + 9) : Int32).toInt64 : Int64) <<< ((32 : Int32).toInt64 &&& 63)) ||| (((xs (i + 10) : Int32).toInt64) &&& 4294967295) : Int64) = lN u9.2.2.2.2.1 from (hx6.symm.trans hxF)]
      have hPc := hP.sub (ws' := (mo_ws m0 e0 (nI (t_tn T)) (nI n) (nI (t_bc T)) (lN P) (lN Q) (lN G) (lN (ckey (t_tn T) (t_kc T) (t_kp T))) (lN (t_pa T)) (lN (t_pb T)) (t_sht T) a0 a1 a2 a3 a4 a5 a6 a7 a8 a9 mb0 mb1 oc mb2 mb3 mb4 mb5 ++ (iw_ws a7 cI 256 bf ++ (iw_ws a8 cI 64 sc ++ (iw_ws a9 cI 8 st ++ (iw_ws mb0 cI 8 kS ++ (iw_ws mb1 cI 64 kR ++ (jw_ws a2 cJ 4 tf ++ (jw_ws a0 cJ 1232 nf ++ (jw_ws a1 cJ 616 cf ++ (iw_ws a6 cI 64 vf ++ (jw_ws mb3 cJ 128 md ++ (iw_ws a4 cI 4 kf ++ jw_ws a3 cJ 16 lf))))))))))))) [26, 27, 28, 29, 30, 31, 32, 33, 34, 39, 40, 35, 37] rfl
      have hDc := hD.sub (ws' := (mo_ws m0 e0 (nI (t_tn T)) (nI n) (nI (t_bc T)) (lN P) (lN Q) (lN G) (lN (ckey (t_tn T) (t_kc T) (t_kp T))) (lN (t_pa T)) (lN (t_pb T)) (t_sht T) a0 a1 a2 a3 a4 a5 a6 a7 a8 a9 mb0 mb1 oc mb2 mb3 mb4 mb5 ++ (iw_ws a7 cI 256 bf ++ (iw_ws a8 cI 64 sc ++ (iw_ws a9 cI 8 st ++ (iw_ws mb0 cI 8 kS ++ (iw_ws mb1 cI 64 kR ++ (jw_ws a2 cJ 4 tf ++ (jw_ws a0 cJ 1232 nf ++ (jw_ws a1 cJ 616 cf ++ (iw_ws a6 cI 64 vf ++ (jw_ws mb3 cJ 128 md ++ (iw_ws a4 cI 4 kf ++ jw_ws a3 cJ 16 lf))))))))))))) [26, 27, 28, 29, 30, 31, 32, 33, 34, 39, 40, 35, 37] (by decide) rfl
      have hKc := hK.sub (tys' := [(cJ, .long), (cI, .int)]) [0, 1] rfl
      have hFc := va_free (wc := (mo_ws m0 e0 (nI (t_tn T)) (nI n) (nI (t_bc T)) (lN P) (lN Q) (lN G) (lN (ckey (t_tn T) (t_kc T) (t_kp T))) (lN (t_pa T)) (lN (t_pb T)) (t_sht T) a0 a1 a2 a3 a4 a5 a6 a7 a8 a9 mb0 mb1 oc mb2 mb3 mb4 mb5 ++ (iw_ws a7 cI 256 bf ++ (iw_ws a8 cI 64 sc ++ (iw_ws a9 cI 8 st ++ (iw_ws mb0 cI 8 kS ++ (iw_ws mb1 cI 64 kR ++ (jw_ws a2 cJ 4 tf ++ (jw_ws a0 cJ 1232 nf ++ (jw_ws a1 cJ 616 cf ++ (iw_ws a6 cI 64 vf ++ (jw_ws mb3 cJ 128 md ++ (iw_ws a4 cI 4 kf ++ jw_ws a3 cJ 16 lf))))))))))))) hD hS hA [26, 27, 28, 29, 30, 31, 32, 33, 34, 39, 40, 35, 37] rfl
      refine va_calli (va_runV (As := [.int (nI u9.1), .int 1, .long (lN u9.2.1), .long (lN u9.2.2.1), .long (lN u9.2.2.2.1), .long (lN u9.2.2.2.2.1)]) (rest := []) ⟨hx, hb, hml, hown, hts⟩ (c_Bm_makeBallot_01 l dC dI cJ cI H.size m0 e0 (t_tn T) n (t_bc T) P Q G (ckey (t_tn T) (t_kc T) (t_kp T)) (t_pa T) (t_pb T) (t_sht T) a0 a1 a2 a3 a4 a5 a6 a7 a8 a9 mb0 mb1 oc mb2 mb3 mb4 mb5 bf sc st vf kf tf nf cf md lf (t_ko T) (t_ao T) ky (fun i => lN (t_ao T i)) u9.1 u9.2.1 u9.2.2.1 u9.2.2.2.1 u9.2.2.2.2.1 1 htn hgr hn hsh0 hrk hrb hal (fun q => hC1 ((bC1_iff hRT).mpr q)) hn9 hn0 hI hR9 hW9 hE9 hF9 (by decide)) (cwV 6 hts (gw_V gk_1141 gk_1142 gk_1143 gk_7 gk_1144) rfl rfl rfl (by decide +kernel) ⟨(Nat.le_of_ble_eq_true rfl), (Nat.le_of_ble_eq_true rfl)⟩) ⟨fun a U g mk q => by obtain ⟨q0, q1, qP, qK, qD⟩ := q; exact ⟨q0, q1, qP, va_K.moved (u := U) (U := U.calling g mk a) (Vm.Alike.refl U.vm) qK, qD⟩, va_recv hK hP (ci := 8) (q0 := 26) rfl rfl, fun U hU hW => ⟨rfl, by rw [hU], by rw [hU]; exact hPc, va_K.moved hW.alike hKc, hDc.weaken (fun _ _ _ _ => trivial)⟩⟩ rfl rfl hl.1 rfl (lv_room (Nat.le_of_ble_eq_true rfl)) d_law_1161 ⟨show cells + 8 + 0 ≤ 601024 by omega, show slots + 48 + 0 ≤ 7293034 by omega⟩) hS (fun q _ h => hFc q h) hFc (fun r_25 v9 t9 H1 locs ht hvm hw hB hz1 hk1 hS => ?_)
      obtain ⟨hP1, hK1, hD1⟩ := hB
      rw [ht] at hP1
      obtain ⟨hP, hD⟩ := va_joinQ (X := (jw_ws out cJ 1 (vp_updL of 0 (lN n)) ++ (bb_ws b0 bd0 pr0 t0 au0 da (.ref g0) ++ (rw_ws da cJ (r8 (lN 2) (lN u9.1) (lN (G ^ u9.2.1 % P)) (lN (((ckey (t_tn T) (t_kc T) (t_kp T)) ^ u9.2.1 % P) * G % P)) (lN u9.2.2.2.1) (lN u9.2.2.2.2.1) (lN ((hsh Q [lN P, lN G, lN 2, lN u9.1, lN (G ^ u9.2.1 % P), lN (((ckey (t_tn T) (t_kc T) (t_kp T)) ^ u9.2.1 % P) * G % P), lN (G ^ u9.2.2.2.2.1 * (G ^ u9.2.1 % P) ^ ((Q - u9.2.2.2.1) % Q) % P), lN ((ckey (t_tn T) (t_kc T) (t_kp T)) ^ u9.2.2.2.2.1 * (((ckey (t_tn T) (t_kc T) (t_kp T)) ^ u9.2.1 % P) * G % P) ^ ((Q - u9.2.2.2.1) % Q) % P), lN (G ^ u9.2.2.1 % P), lN ((ckey (t_tn T) (t_kc T) (t_kp T)) ^ u9.2.2.1 % P)] + (Q - u9.2.2.2.1)) % Q)) (lN ((u9.2.2.1 + ((hsh Q [lN P, lN G, lN 2, lN u9.1, lN (G ^ u9.2.1 % P), lN (((ckey (t_tn T) (t_kc T) (t_kp T)) ^ u9.2.1 % P) * G % P), lN (G ^ u9.2.2.2.2.1 * (G ^ u9.2.1 % P) ^ ((Q - u9.2.2.2.1) % Q) % P), lN ((ckey (t_tn T) (t_kc T) (t_kp T)) ^ u9.2.2.2.2.1 * (((ckey (t_tn T) (t_kc T) (t_kp T)) ^ u9.2.1 % P) * G % P) ^ ((Q - u9.2.2.2.1) % Q) % P), lN (G ^ u9.2.2.1 % P), lN ((ckey (t_tn T) (t_kc T) (t_kp T)) ^ u9.2.2.1 % P)] + (Q - u9.2.2.2.1)) % Q) * u9.2.1 % Q) % Q))) ++ (bd_ws bd0 h0 ro lo (n + 1) cR (rrf rb) (rrf lb) ++ (pr_ws pr0 h0 cm cJ u9.2.2.2.2.2.1 ++ (hu_ws h0 aw ax ay cJ cI u9.2.2.2.2.2.2 ++ (tt_ws t0 ka aa ba sa (.ref g0) cJ (tBal u9.1 (vN (lN (G ^ u9.2.1 % P))) (vN (lN (((ckey (t_tn T) (t_kc T) (t_kp T)) ^ u9.2.1 % P) * G % P))) T) ++ (au_ws au0 bd0 pr0 tu0 sd ++ (tt_ws tu0 uka uaa uba usa gu cJ T0 ++ (gp_ws g0 mF mE P f1 k1 Q f2 k2 G ++ (mo_ws m0 e0 (nI (t_tn T)) (nI n) (nI (t_bc T)) (lN P) (lN Q) (lN G) (lN (ckey (t_tn T) (t_kc T) (t_kp T))) (lN (t_pa T)) (lN (t_pb T)) (t_sht T) a0 a1 a2 a3 a4 a5 a6 a7 a8 a9 mb0 mb1 oc mb2 mb3 mb4 mb5 ++ (iw_ws a7 cI 256 bf ++ (iw_ws a8 cI 64 sc ++ (iw_ws a9 cI 8 st ++ (iw_ws mb0 cI 8 kS ++ (iw_ws mb1 cI 64 kR ++ (jw_ws a2 cJ 4 tf ++ (jw_ws a0 cJ 1232 nf ++ (jw_ws a1 cJ 616 cf ++ (iw_ws a4 cI 4 kf ++ (jw_ws mb2 cJ 4 ky ++ (jw_ws a3 cJ 16 lf ++ (iw_ws a5 cI 4 sf ++ (iw_ws a6 cI 64 vf ++ (jw_ws mb3 cJ 128 md ++ (jw_ws mb4 cJ 4 sh ++ iw_ws mb5 cI 64 ct))))))))))))))))))))))))))) (cx := (mo_ws m0 e0 (nI (t_tn T)) (nI n) (nI (t_bc T)) (lN P) (lN Q) (lN G) (lN (ckey (t_tn T) (t_kc T) (t_kp T))) (lN (t_pa T)) (lN (t_pb T)) (t_sht T) a0 a1 a2 a3 a4 a5 a6 a7 a8 a9 mb0 mb1 oc mb2 mb3 mb4 mb5 ++ (iw_ws a7 cI 256 bf ++ (iw_ws a8 cI 64 sc ++ (iw_ws a9 cI 8 st ++ (iw_ws mb0 cI 8 kS ++ (iw_ws mb1 cI 64 kR ++ (jw_ws a2 cJ 4 tf ++ (jw_ws a0 cJ 1232 nf ++ (jw_ws a1 cJ 616 cf ++ (iw_ws a6 cI 64 vf ++ (jw_ws mb3 cJ 128 md ++ (iw_ws a4 cI 4 kf ++ jw_ws a3 cJ 16 lf))))))))))))) (wr := (jw_ws out cJ 1 (vp_updL of 0 (lN n)) ++ (bb_ws b0 bd0 pr0 t0 au0 da (.ref g0) ++ (rw_ws da cJ (r8 (lN 2) (lN u9.1) (lN (G ^ u9.2.1 % P)) (lN (((ckey (t_tn T) (t_kc T) (t_kp T)) ^ u9.2.1 % P) * G % P)) (lN u9.2.2.2.1) (lN u9.2.2.2.2.1) (lN ((hsh Q [lN P, lN G, lN 2, lN u9.1, lN (G ^ u9.2.1 % P), lN (((ckey (t_tn T) (t_kc T) (t_kp T)) ^ u9.2.1 % P) * G % P), lN (G ^ u9.2.2.2.2.1 * (G ^ u9.2.1 % P) ^ ((Q - u9.2.2.2.1) % Q) % P), lN ((ckey (t_tn T) (t_kc T) (t_kp T)) ^ u9.2.2.2.2.1 * (((ckey (t_tn T) (t_kc T) (t_kp T)) ^ u9.2.1 % P) * G % P) ^ ((Q - u9.2.2.2.1) % Q) % P), lN (G ^ u9.2.2.1 % P), lN ((ckey (t_tn T) (t_kc T) (t_kp T)) ^ u9.2.2.1 % P)] + (Q - u9.2.2.2.1)) % Q)) (lN ((u9.2.2.1 + ((hsh Q [lN P, lN G, lN 2, lN u9.1, lN (G ^ u9.2.1 % P), lN (((ckey (t_tn T) (t_kc T) (t_kp T)) ^ u9.2.1 % P) * G % P), lN (G ^ u9.2.2.2.2.1 * (G ^ u9.2.1 % P) ^ ((Q - u9.2.2.2.1) % Q) % P), lN ((ckey (t_tn T) (t_kc T) (t_kp T)) ^ u9.2.2.2.2.1 * (((ckey (t_tn T) (t_kc T) (t_kp T)) ^ u9.2.1 % P) * G % P) ^ ((Q - u9.2.2.2.1) % Q) % P), lN (G ^ u9.2.2.1 % P), lN ((ckey (t_tn T) (t_kc T) (t_kp T)) ^ u9.2.2.1 % P)] + (Q - u9.2.2.2.1)) % Q) * u9.2.1 % Q) % Q))) ++ (bd_ws bd0 h0 ro lo (n + 1) cR (rrf rb) (rrf lb) ++ (pr_ws pr0 h0 cm cJ u9.2.2.2.2.2.1 ++ (hu_ws h0 aw ax ay cJ cI u9.2.2.2.2.2.2 ++ (tt_ws t0 ka aa ba sa (.ref g0) cJ (tBal u9.1 (vN (lN (G ^ u9.2.1 % P))) (vN (lN (((ckey (t_tn T) (t_kc T) (t_kp T)) ^ u9.2.1 % P) * G % P))) T) ++ (au_ws au0 bd0 pr0 tu0 sd ++ (tt_ws tu0 uka uaa uba usa gu cJ T0 ++ (gp_ws g0 mF mE P f1 k1 Q f2 k2 G ++ (jw_ws mb2 cJ 4 ky ++ (iw_ws a5 cI 4 sf ++ (jw_ws mb4 cJ 4 sh ++ iw_ws mb5 cI 64 ct)))))))))))))) (w1 := (mo_ws m0 0 (nI (t_tn T)) (nI (n + 1)) (nI (if (t_ao T) u9.1 = 0 then (t_bc T) + 1 else (t_bc T))) (lN P) (lN Q) (lN G) (lN (ckey (t_tn T) (t_kc T) (t_kp T))) (lN (t_pa T)) (lN (t_pb T)) (t_sht T) a0 a1 a2 a3 a4 a5 a6 a7 a8 a9 mb0 mb1 v9.1.2.2.2.2 mb2 mb3 mb4 mb5 ++ (iw_ws a7 cI 256 v9.1.1 ++ (iw_ws a8 cI 64 v9.1.2.1 ++ (iw_ws a9 cI 8 v9.1.2.2.1 ++ (iw_ws mb0 cI 8 kS ++ (iw_ws mb1 cI 64 kR ++ (jw_ws a2 cJ 4 v9.1.2.2.2.1 ++ (jw_ws a0 cJ 1232 (w8 nf (8 * n) (lN 2) (lN u9.1) (lN (G ^ u9.2.1 % P)) (lN (((ckey (t_tn T) (t_kc T) (t_kp T)) ^ u9.2.1 % P) * G % P)) (lN u9.2.2.2.1) (lN u9.2.2.2.2.1) (lN ((hsh Q [lN P, lN G, 2, lN u9.1, lN (G ^ u9.2.1 % P), lN (((ckey (t_tn T) (t_kc T) (t_kp T)) ^ u9.2.1 % P) * G % P), lN ((G ^ u9.2.2.2.2.1 % P) * ((G ^ u9.2.1 % P) ^ (Q - u9.2.2.2.1) % P) % P), lN (((ckey (t_tn T) (t_kc T) (t_kp T)) ^ u9.2.2.2.2.1 % P) * ((((ckey (t_tn T) (t_kc T) (t_kp T)) ^ u9.2.1 % P) * G % P) ^ (Q - u9.2.2.2.1) % P) % P), lN (G ^ u9.2.2.1 % P), lN ((ckey (t_tn T) (t_kc T) (t_kp T)) ^ u9.2.2.1 % P)] + (Q - u9.2.2.2.1)) % Q)) (lN ((u9.2.2.1 + ((hsh Q [lN P, lN G, 2, lN u9.1, lN (G ^ u9.2.1 % P), lN (((ckey (t_tn T) (t_kc T) (t_kp T)) ^ u9.2.1 % P) * G % P), lN ((G ^ u9.2.2.2.2.1 % P) * ((G ^ u9.2.1 % P) ^ (Q - u9.2.2.2.1) % P) % P), lN (((ckey (t_tn T) (t_kc T) (t_kp T)) ^ u9.2.2.2.2.1 % P) * ((((ckey (t_tn T) (t_kc T) (t_kp T)) ^ u9.2.1 % P) * G % P) ^ (Q - u9.2.2.2.1) % P) % P), lN (G ^ u9.2.2.1 % P), lN ((ckey (t_tn T) (t_kc T) (t_kp T)) ^ u9.2.2.1 % P)] + (Q - u9.2.2.2.1)) % Q) * u9.2.1 % Q) % Q))) ++ (jw_ws a1 cJ 616 (c4 cf (4 * n) (lkw [cf (4 * (n - 1) + 0), cf (4 * (n - 1) + 1), cf (4 * (n - 1) + 2), cf (4 * (n - 1) + 3), lN 2, lN u9.1, lN (G ^ u9.2.1 % P), lN (((ckey (t_tn T) (t_kc T) (t_kp T)) ^ u9.2.1 % P) * G % P), lN u9.2.2.2.1, lN u9.2.2.2.2.1, lN ((hsh Q [lN P, lN G, 2, lN u9.1, lN (G ^ u9.2.1 % P), lN (((ckey (t_tn T) (t_kc T) (t_kp T)) ^ u9.2.1 % P) * G % P), lN ((G ^ u9.2.2.2.2.1 % P) * ((G ^ u9.2.1 % P) ^ (Q - u9.2.2.2.1) % P) % P), lN (((ckey (t_tn T) (t_kc T) (t_kp T)) ^ u9.2.2.2.2.1 % P) * ((((ckey (t_tn T) (t_kc T) (t_kp T)) ^ u9.2.1 % P) * G % P) ^ (Q - u9.2.2.2.1) % P) % P), lN (G ^ u9.2.2.1 % P), lN ((ckey (t_tn T) (t_kc T) (t_kp T)) ^ u9.2.2.1 % P)] + (Q - u9.2.2.2.1)) % Q), lN ((u9.2.2.1 + ((hsh Q [lN P, lN G, 2, lN u9.1, lN (G ^ u9.2.1 % P), lN (((ckey (t_tn T) (t_kc T) (t_kp T)) ^ u9.2.1 % P) * G % P), lN ((G ^ u9.2.2.2.2.1 % P) * ((G ^ u9.2.1 % P) ^ (Q - u9.2.2.2.1) % P) % P), lN (((ckey (t_tn T) (t_kc T) (t_kp T)) ^ u9.2.2.2.2.1 % P) * ((((ckey (t_tn T) (t_kc T) (t_kp T)) ^ u9.2.1 % P) * G % P) ^ (Q - u9.2.2.2.1) % P) % P), lN (G ^ u9.2.2.1 % P), lN ((ckey (t_tn T) (t_kc T) (t_kp T)) ^ u9.2.2.1 % P)] + (Q - u9.2.2.2.1)) % Q) * u9.2.1 % Q) % Q)])) ++ (iw_ws a6 cI 64 (upd vf u9.1 (nI n)) ++ (jw_ws mb3 cJ 128 (vp_updL (vp_updL md (2 * u9.1) (lN (G ^ u9.2.1 % P))) (2 * u9.1 + 1) (lN (((ckey (t_tn T) (t_kc T) (t_kp T)) ^ u9.2.1 % P) * G % P))) ++ (iw_ws a4 cI 4 kf ++ jw_ws a3 cJ 16 v9.2))))))))))))) (pl := bpool rb lb cJ (updF R n (r8 (lN 2) (lN u9.1) (lN (G ^ u9.2.1 % P)) (lN (((ckey (t_tn T) (t_kc T) (t_kp T)) ^ u9.2.1 % P) * G % P)) (lN u9.2.2.2.1) (lN u9.2.2.2.2.1) (lN ((hsh Q [lN P, lN G, lN 2, lN u9.1, lN (G ^ u9.2.1 % P), lN (((ckey (t_tn T) (t_kc T) (t_kp T)) ^ u9.2.1 % P) * G % P), lN (G ^ u9.2.2.2.2.1 * (G ^ u9.2.1 % P) ^ ((Q - u9.2.2.2.1) % Q) % P), lN ((ckey (t_tn T) (t_kc T) (t_kp T)) ^ u9.2.2.2.2.1 * (((ckey (t_tn T) (t_kc T) (t_kp T)) ^ u9.2.1 % P) * G % P) ^ ((Q - u9.2.2.2.1) % Q) % P), lN (G ^ u9.2.2.1 % P), lN ((ckey (t_tn T) (t_kc T) (t_kp T)) ^ u9.2.2.1 % P)] + (Q - u9.2.2.2.1)) % Q)) (lN ((u9.2.2.1 + ((hsh Q [lN P, lN G, lN 2, lN u9.1, lN (G ^ u9.2.1 % P), lN (((ckey (t_tn T) (t_kc T) (t_kp T)) ^ u9.2.1 % P) * G % P), lN (G ^ u9.2.2.2.2.1 * (G ^ u9.2.1 % P) ^ ((Q - u9.2.2.2.1) % Q) % P), lN ((ckey (t_tn T) (t_kc T) (t_kp T)) ^ u9.2.2.2.2.1 * (((ckey (t_tn T) (t_kc T) (t_kp T)) ^ u9.2.1 % P) * G % P) ^ ((Q - u9.2.2.2.1) % Q) % P), lN (G ^ u9.2.2.1 % P), lN ((ckey (t_tn T) (t_kc T) (t_kp T)) ^ u9.2.2.1 % P)] + (Q - u9.2.2.2.1)) % Q) * u9.2.1 % Q) % Q)))) (updF Lk n (lkw (msgL 2 n (r8 (lN 2) (lN u9.1) (lN (G ^ u9.2.1 % P)) (lN (((ckey (t_tn T) (t_kc T) (t_kp T)) ^ u9.2.1 % P) * G % P)) (lN u9.2.2.2.1) (lN u9.2.2.2.2.1) (lN ((hsh Q [lN P, lN G, lN 2, lN u9.1, lN (G ^ u9.2.1 % P), lN (((ckey (t_tn T) (t_kc T) (t_kp T)) ^ u9.2.1 % P) * G % P), lN (G ^ u9.2.2.2.2.1 * (G ^ u9.2.1 % P) ^ ((Q - u9.2.2.2.1) % Q) % P), lN ((ckey (t_tn T) (t_kc T) (t_kp T)) ^ u9.2.2.2.2.1 * (((ckey (t_tn T) (t_kc T) (t_kp T)) ^ u9.2.1 % P) * G % P) ^ ((Q - u9.2.2.2.1) % Q) % P), lN (G ^ u9.2.2.1 % P), lN ((ckey (t_tn T) (t_kc T) (t_kp T)) ^ u9.2.2.1 % P)] + (Q - u9.2.2.2.1)) % Q)) (lN ((u9.2.2.1 + ((hsh Q [lN P, lN G, lN 2, lN u9.1, lN (G ^ u9.2.1 % P), lN (((ckey (t_tn T) (t_kc T) (t_kp T)) ^ u9.2.1 % P) * G % P), lN (G ^ u9.2.2.2.2.1 * (G ^ u9.2.1 % P) ^ ((Q - u9.2.2.2.1) % Q) % P), lN ((ckey (t_tn T) (t_kc T) (t_kp T)) ^ u9.2.2.2.2.1 * (((ckey (t_tn T) (t_kc T) (t_kp T)) ^ u9.2.1 % P) * G % P) ^ ((Q - u9.2.2.2.1) % Q) % P), lN (G ^ u9.2.2.1 % P), lN ((ckey (t_tn T) (t_kc T) (t_kp T)) ^ u9.2.2.1 % P)] + (Q - u9.2.2.2.1)) % Q) * u9.2.1 % Q) % Q))) Lk)))) hP hD [26, 27, 28, 29, 30, 31, 32, 33, 34, 39, 40, 35, 37] [0, 1, 2, 3, 4, 5, 6, 7, 8, 9, 10, 11, 12, 13, 14, 15, 16, 17, 18, 19, 20, 21, 22, 23, 24, 25, 36, 38, 41, 42] rfl rfl (by decide) (by decide) hk1 hFc hP1 hD1
      have hP := hP.part (cx := (jw_ws out cJ 1 (vp_updL of 0 (lN n)) ++ (bb_ws b0 bd0 pr0 t0 au0 da (.ref g0) ++ (rw_ws da cJ (r8 (lN 2) (lN u9.1) (lN (G ^ u9.2.1 % P)) (lN (((ckey (t_tn T) (t_kc T) (t_kp T)) ^ u9.2.1 % P) * G % P)) (lN u9.2.2.2.1) (lN u9.2.2.2.2.1) (lN ((hsh Q [lN P, lN G, lN 2, lN u9.1, lN (G ^ u9.2.1 % P), lN (((ckey (t_tn T) (t_kc T) (t_kp T)) ^ u9.2.1 % P) * G % P), lN (G ^ u9.2.2.2.2.1 * (G ^ u9.2.1 % P) ^ ((Q - u9.2.2.2.1) % Q) % P), lN ((ckey (t_tn T) (t_kc T) (t_kp T)) ^ u9.2.2.2.2.1 * (((ckey (t_tn T) (t_kc T) (t_kp T)) ^ u9.2.1 % P) * G % P) ^ ((Q - u9.2.2.2.1) % Q) % P), lN (G ^ u9.2.2.1 % P), lN ((ckey (t_tn T) (t_kc T) (t_kp T)) ^ u9.2.2.1 % P)] + (Q - u9.2.2.2.1)) % Q)) (lN ((u9.2.2.1 + ((hsh Q [lN P, lN G, lN 2, lN u9.1, lN (G ^ u9.2.1 % P), lN (((ckey (t_tn T) (t_kc T) (t_kp T)) ^ u9.2.1 % P) * G % P), lN (G ^ u9.2.2.2.2.1 * (G ^ u9.2.1 % P) ^ ((Q - u9.2.2.2.1) % Q) % P), lN ((ckey (t_tn T) (t_kc T) (t_kp T)) ^ u9.2.2.2.2.1 * (((ckey (t_tn T) (t_kc T) (t_kp T)) ^ u9.2.1 % P) * G % P) ^ ((Q - u9.2.2.2.1) % Q) % P), lN (G ^ u9.2.2.1 % P), lN ((ckey (t_tn T) (t_kc T) (t_kp T)) ^ u9.2.2.1 % P)] + (Q - u9.2.2.2.1)) % Q) * u9.2.1 % Q) % Q))) ++ (bd_ws bd0 h0 ro lo (n + 1) cR (rrf rb) (rrf lb) ++ (pr_ws pr0 h0 cm cJ u9.2.2.2.2.2.1 ++ (hu_ws h0 aw ax ay cJ cI u9.2.2.2.2.2.2 ++ (tt_ws t0 ka aa ba sa (.ref g0) cJ (tBal u9.1 (vN (lN (G ^ u9.2.1 % P))) (vN (lN (((ckey (t_tn T) (t_kc T) (t_kp T)) ^ u9.2.1 % P) * G % P))) T) ++ (au_ws au0 bd0 pr0 tu0 sd ++ (tt_ws tu0 uka uaa uba usa gu cJ T0 ++ (gp_ws g0 mF mE P f1 k1 Q f2 k2 G ++ (mo_ws m0 0 (nI (t_tn T)) (nI (n + 1)) (nI (if (t_ao T) u9.1 = 0 then (t_bc T) + 1 else (t_bc T))) (lN P) (lN Q) (lN G) (lN (ckey (t_tn T) (t_kc T) (t_kp T))) (lN (t_pa T)) (lN (t_pb T)) (t_sht T) a0 a1 a2 a3 a4 a5 a6 a7 a8 a9 mb0 mb1 v9.1.2.2.2.2 mb2 mb3 mb4 mb5 ++ (iw_ws a7 cI 256 v9.1.1 ++ (iw_ws a8 cI 64 v9.1.2.1 ++ (iw_ws a9 cI 8 v9.1.2.2.1 ++ (iw_ws mb0 cI 8 kS ++ (iw_ws mb1 cI 64 kR ++ (jw_ws a2 cJ 4 v9.1.2.2.2.1 ++ (jw_ws a0 cJ 1232 (w8 nf (8 * n) (lN 2) (lN u9.1) (lN (G ^ u9.2.1 % P)) (lN (((ckey (t_tn T) (t_kc T) (t_kp T)) ^ u9.2.1 % P) * G % P)) (lN u9.2.2.2.1) (lN u9.2.2.2.2.1) (lN ((hsh Q [lN P, lN G, 2, lN u9.1, lN (G ^ u9.2.1 % P), lN (((ckey (t_tn T) (t_kc T) (t_kp T)) ^ u9.2.1 % P) * G % P), lN ((G ^ u9.2.2.2.2.1 % P) * ((G ^ u9.2.1 % P) ^ (Q - u9.2.2.2.1) % P) % P), lN (((ckey (t_tn T) (t_kc T) (t_kp T)) ^ u9.2.2.2.2.1 % P) * ((((ckey (t_tn T) (t_kc T) (t_kp T)) ^ u9.2.1 % P) * G % P) ^ (Q - u9.2.2.2.1) % P) % P), lN (G ^ u9.2.2.1 % P), lN ((ckey (t_tn T) (t_kc T) (t_kp T)) ^ u9.2.2.1 % P)] + (Q - u9.2.2.2.1)) % Q)) (lN ((u9.2.2.1 + ((hsh Q [lN P, lN G, 2, lN u9.1, lN (G ^ u9.2.1 % P), lN (((ckey (t_tn T) (t_kc T) (t_kp T)) ^ u9.2.1 % P) * G % P), lN ((G ^ u9.2.2.2.2.1 % P) * ((G ^ u9.2.1 % P) ^ (Q - u9.2.2.2.1) % P) % P), lN (((ckey (t_tn T) (t_kc T) (t_kp T)) ^ u9.2.2.2.2.1 % P) * ((((ckey (t_tn T) (t_kc T) (t_kp T)) ^ u9.2.1 % P) * G % P) ^ (Q - u9.2.2.2.1) % P) % P), lN (G ^ u9.2.2.1 % P), lN ((ckey (t_tn T) (t_kc T) (t_kp T)) ^ u9.2.2.1 % P)] + (Q - u9.2.2.2.1)) % Q) * u9.2.1 % Q) % Q))) ++ (jw_ws a1 cJ 616 (c4 cf (4 * n) (lkw [cf (4 * (n - 1) + 0), cf (4 * (n - 1) + 1), cf (4 * (n - 1) + 2), cf (4 * (n - 1) + 3), lN 2, lN u9.1, lN (G ^ u9.2.1 % P), lN (((ckey (t_tn T) (t_kc T) (t_kp T)) ^ u9.2.1 % P) * G % P), lN u9.2.2.2.1, lN u9.2.2.2.2.1, lN ((hsh Q [lN P, lN G, 2, lN u9.1, lN (G ^ u9.2.1 % P), lN (((ckey (t_tn T) (t_kc T) (t_kp T)) ^ u9.2.1 % P) * G % P), lN ((G ^ u9.2.2.2.2.1 % P) * ((G ^ u9.2.1 % P) ^ (Q - u9.2.2.2.1) % P) % P), lN (((ckey (t_tn T) (t_kc T) (t_kp T)) ^ u9.2.2.2.2.1 % P) * ((((ckey (t_tn T) (t_kc T) (t_kp T)) ^ u9.2.1 % P) * G % P) ^ (Q - u9.2.2.2.1) % P) % P), lN (G ^ u9.2.2.1 % P), lN ((ckey (t_tn T) (t_kc T) (t_kp T)) ^ u9.2.2.1 % P)] + (Q - u9.2.2.2.1)) % Q), lN ((u9.2.2.1 + ((hsh Q [lN P, lN G, 2, lN u9.1, lN (G ^ u9.2.1 % P), lN (((ckey (t_tn T) (t_kc T) (t_kp T)) ^ u9.2.1 % P) * G % P), lN ((G ^ u9.2.2.2.2.1 % P) * ((G ^ u9.2.1 % P) ^ (Q - u9.2.2.2.1) % P) % P), lN (((ckey (t_tn T) (t_kc T) (t_kp T)) ^ u9.2.2.2.2.1 % P) * ((((ckey (t_tn T) (t_kc T) (t_kp T)) ^ u9.2.1 % P) * G % P) ^ (Q - u9.2.2.2.1) % P) % P), lN (G ^ u9.2.2.1 % P), lN ((ckey (t_tn T) (t_kc T) (t_kp T)) ^ u9.2.2.1 % P)] + (Q - u9.2.2.2.1)) % Q) * u9.2.1 % Q) % Q)])) ++ (iw_ws a4 cI 4 kf ++ (jw_ws mb2 cJ 4 ky ++ (jw_ws a3 cJ 16 v9.2 ++ (iw_ws a5 cI 4 sf ++ (iw_ws a6 cI 64 (upd vf u9.1 (nI n)) ++ (jw_ws mb3 cJ 128 (vp_updL (vp_updL md (2 * u9.1) (lN (G ^ u9.2.1 % P))) (2 * u9.1 + 1) (lN (((ckey (t_tn T) (t_kc T) (t_kp T)) ^ u9.2.1 % P) * G % P))) ++ (jw_ws mb4 cJ 4 sh ++ iw_ws mb5 cI 64 ct))))))))))))))))))))))))))) [0, 1, 2, 3, 4, 5, 6, 7, 8, 9, 10, 11, 12, 13, 14, 15, 16, 17, 18, 19, 20, 21, 22, 23, 24, 25, 30, 31, 32, 33, 34, 35, 36, 37, 38, 41, 26, 42, 27, 39, 40, 28, 29] rfl
      have hD := hD.part (cx := (jw_ws out cJ 1 (vp_updL of 0 (lN n)) ++ (bb_ws b0 bd0 pr0 t0 au0 da (.ref g0) ++ (rw_ws da cJ (r8 (lN 2) (lN u9.1) (lN (G ^ u9.2.1 % P)) (lN (((ckey (t_tn T) (t_kc T) (t_kp T)) ^ u9.2.1 % P) * G % P)) (lN u9.2.2.2.1) (lN u9.2.2.2.2.1) (lN ((hsh Q [lN P, lN G, lN 2, lN u9.1, lN (G ^ u9.2.1 % P), lN (((ckey (t_tn T) (t_kc T) (t_kp T)) ^ u9.2.1 % P) * G % P), lN (G ^ u9.2.2.2.2.1 * (G ^ u9.2.1 % P) ^ ((Q - u9.2.2.2.1) % Q) % P), lN ((ckey (t_tn T) (t_kc T) (t_kp T)) ^ u9.2.2.2.2.1 * (((ckey (t_tn T) (t_kc T) (t_kp T)) ^ u9.2.1 % P) * G % P) ^ ((Q - u9.2.2.2.1) % Q) % P), lN (G ^ u9.2.2.1 % P), lN ((ckey (t_tn T) (t_kc T) (t_kp T)) ^ u9.2.2.1 % P)] + (Q - u9.2.2.2.1)) % Q)) (lN ((u9.2.2.1 + ((hsh Q [lN P, lN G, lN 2, lN u9.1, lN (G ^ u9.2.1 % P), lN (((ckey (t_tn T) (t_kc T) (t_kp T)) ^ u9.2.1 % P) * G % P), lN (G ^ u9.2.2.2.2.1 * (G ^ u9.2.1 % P) ^ ((Q - u9.2.2.2.1) % Q) % P), lN ((ckey (t_tn T) (t_kc T) (t_kp T)) ^ u9.2.2.2.2.1 * (((ckey (t_tn T) (t_kc T) (t_kp T)) ^ u9.2.1 % P) * G % P) ^ ((Q - u9.2.2.2.1) % Q) % P), lN (G ^ u9.2.2.1 % P), lN ((ckey (t_tn T) (t_kc T) (t_kp T)) ^ u9.2.2.1 % P)] + (Q - u9.2.2.2.1)) % Q) * u9.2.1 % Q) % Q))) ++ (bd_ws bd0 h0 ro lo (n + 1) cR (rrf rb) (rrf lb) ++ (pr_ws pr0 h0 cm cJ u9.2.2.2.2.2.1 ++ (hu_ws h0 aw ax ay cJ cI u9.2.2.2.2.2.2 ++ (tt_ws t0 ka aa ba sa (.ref g0) cJ (tBal u9.1 (vN (lN (G ^ u9.2.1 % P))) (vN (lN (((ckey (t_tn T) (t_kc T) (t_kp T)) ^ u9.2.1 % P) * G % P))) T) ++ (au_ws au0 bd0 pr0 tu0 sd ++ (tt_ws tu0 uka uaa uba usa gu cJ T0 ++ (gp_ws g0 mF mE P f1 k1 Q f2 k2 G ++ (mo_ws m0 0 (nI (t_tn T)) (nI (n + 1)) (nI (if (t_ao T) u9.1 = 0 then (t_bc T) + 1 else (t_bc T))) (lN P) (lN Q) (lN G) (lN (ckey (t_tn T) (t_kc T) (t_kp T))) (lN (t_pa T)) (lN (t_pb T)) (t_sht T) a0 a1 a2 a3 a4 a5 a6 a7 a8 a9 mb0 mb1 v9.1.2.2.2.2 mb2 mb3 mb4 mb5 ++ (iw_ws a7 cI 256 v9.1.1 ++ (iw_ws a8 cI 64 v9.1.2.1 ++ (iw_ws a9 cI 8 v9.1.2.2.1 ++ (iw_ws mb0 cI 8 kS ++ (iw_ws mb1 cI 64 kR ++ (jw_ws a2 cJ 4 v9.1.2.2.2.1 ++ (jw_ws a0 cJ 1232 (w8 nf (8 * n) (lN 2) (lN u9.1) (lN (G ^ u9.2.1 % P)) (lN (((ckey (t_tn T) (t_kc T) (t_kp T)) ^ u9.2.1 % P) * G % P)) (lN u9.2.2.2.1) (lN u9.2.2.2.2.1) (lN ((hsh Q [lN P, lN G, 2, lN u9.1, lN (G ^ u9.2.1 % P), lN (((ckey (t_tn T) (t_kc T) (t_kp T)) ^ u9.2.1 % P) * G % P), lN ((G ^ u9.2.2.2.2.1 % P) * ((G ^ u9.2.1 % P) ^ (Q - u9.2.2.2.1) % P) % P), lN (((ckey (t_tn T) (t_kc T) (t_kp T)) ^ u9.2.2.2.2.1 % P) * ((((ckey (t_tn T) (t_kc T) (t_kp T)) ^ u9.2.1 % P) * G % P) ^ (Q - u9.2.2.2.1) % P) % P), lN (G ^ u9.2.2.1 % P), lN ((ckey (t_tn T) (t_kc T) (t_kp T)) ^ u9.2.2.1 % P)] + (Q - u9.2.2.2.1)) % Q)) (lN ((u9.2.2.1 + ((hsh Q [lN P, lN G, 2, lN u9.1, lN (G ^ u9.2.1 % P), lN (((ckey (t_tn T) (t_kc T) (t_kp T)) ^ u9.2.1 % P) * G % P), lN ((G ^ u9.2.2.2.2.1 % P) * ((G ^ u9.2.1 % P) ^ (Q - u9.2.2.2.1) % P) % P), lN (((ckey (t_tn T) (t_kc T) (t_kp T)) ^ u9.2.2.2.2.1 % P) * ((((ckey (t_tn T) (t_kc T) (t_kp T)) ^ u9.2.1 % P) * G % P) ^ (Q - u9.2.2.2.1) % P) % P), lN (G ^ u9.2.2.1 % P), lN ((ckey (t_tn T) (t_kc T) (t_kp T)) ^ u9.2.2.1 % P)] + (Q - u9.2.2.2.1)) % Q) * u9.2.1 % Q) % Q))) ++ (jw_ws a1 cJ 616 (c4 cf (4 * n) (lkw [cf (4 * (n - 1) + 0), cf (4 * (n - 1) + 1), cf (4 * (n - 1) + 2), cf (4 * (n - 1) + 3), lN 2, lN u9.1, lN (G ^ u9.2.1 % P), lN (((ckey (t_tn T) (t_kc T) (t_kp T)) ^ u9.2.1 % P) * G % P), lN u9.2.2.2.1, lN u9.2.2.2.2.1, lN ((hsh Q [lN P, lN G, 2, lN u9.1, lN (G ^ u9.2.1 % P), lN (((ckey (t_tn T) (t_kc T) (t_kp T)) ^ u9.2.1 % P) * G % P), lN ((G ^ u9.2.2.2.2.1 % P) * ((G ^ u9.2.1 % P) ^ (Q - u9.2.2.2.1) % P) % P), lN (((ckey (t_tn T) (t_kc T) (t_kp T)) ^ u9.2.2.2.2.1 % P) * ((((ckey (t_tn T) (t_kc T) (t_kp T)) ^ u9.2.1 % P) * G % P) ^ (Q - u9.2.2.2.1) % P) % P), lN (G ^ u9.2.2.1 % P), lN ((ckey (t_tn T) (t_kc T) (t_kp T)) ^ u9.2.2.1 % P)] + (Q - u9.2.2.2.1)) % Q), lN ((u9.2.2.1 + ((hsh Q [lN P, lN G, 2, lN u9.1, lN (G ^ u9.2.1 % P), lN (((ckey (t_tn T) (t_kc T) (t_kp T)) ^ u9.2.1 % P) * G % P), lN ((G ^ u9.2.2.2.2.1 % P) * ((G ^ u9.2.1 % P) ^ (Q - u9.2.2.2.1) % P) % P), lN (((ckey (t_tn T) (t_kc T) (t_kp T)) ^ u9.2.2.2.2.1 % P) * ((((ckey (t_tn T) (t_kc T) (t_kp T)) ^ u9.2.1 % P) * G % P) ^ (Q - u9.2.2.2.1) % P) % P), lN (G ^ u9.2.2.1 % P), lN ((ckey (t_tn T) (t_kc T) (t_kp T)) ^ u9.2.2.1 % P)] + (Q - u9.2.2.2.1)) % Q) * u9.2.1 % Q) % Q)])) ++ (iw_ws a4 cI 4 kf ++ (jw_ws mb2 cJ 4 ky ++ (jw_ws a3 cJ 16 v9.2 ++ (iw_ws a5 cI 4 sf ++ (iw_ws a6 cI 64 (upd vf u9.1 (nI n)) ++ (jw_ws mb3 cJ 128 (vp_updL (vp_updL md (2 * u9.1) (lN (G ^ u9.2.1 % P))) (2 * u9.1 + 1) (lN (((ckey (t_tn T) (t_kc T) (t_kp T)) ^ u9.2.1 % P) * G % P))) ++ (jw_ws mb4 cJ 4 sh ++ iw_ws mb5 cI 64 ct))))))))))))))))))))))))))) [0, 1, 2, 3, 4, 5, 6, 7, 8, 9, 10, 11, 12, 13, 14, 15, 16, 17, 18, 19, 20, 21, 22, 23, 24, 25, 30, 31, 32, 33, 34, 35, 36, 37, 38, 41, 26, 42, 27, 39, 40, 28, 29] (by decide) rfl
      generalize H1 = H at hP hS ⊢
      clear hPc hDc hFc hP1 hD1 hK1 ht hk1 hz1
      have hr8 := hw
      subst hr8
      rw [q2, q3] at hP hD
      refine lv_istore (lv' := [(6, .int (nI n)), (5, .int 0), (4, .int (nI i)), (3, .ref out), (2, .ref m0), (1, .ref b0), (0, .ref b)]) hx hb d_law_1164 hl (by decide) rfl (fun ls hl => ?_)
      refine lv_aload_n hx hb d_law_1166 rfl (lv_at hl 4 rfl) ?_
      have hPc := hP.sub (ws' := (mo_ws m0 0 (nI (t_tn T)) (nI (n + 1)) (nI (if (t_ao T) u9.1 = 0 then (t_bc T) + 1 else (t_bc T))) (lN P) (lN Q) (lN G) (lN (ckey (t_tn T) (t_kc T) (t_kp T))) (lN (t_pa T)) (lN (t_pb T)) (t_sht T) a0 a1 a2 a3 a4 a5 a6 a7 a8 a9 mb0 mb1 v9.1.2.2.2.2 mb2 mb3 mb4 mb5)) [26] rfl
      have hKc := hK.sub (tys' := [(cJ, .long), (cI, .int)]) [0, 1] rfl
      refine va_calli (va_runV (As := []) (rest := []) ⟨hx, hb, hml, hown, hts⟩ (c_Bm_thrown l H dC dI cJ cI m0 0 (nI (t_tn T)) (nI (n + 1)) (nI (if (t_ao T) u9.1 = 0 then (t_bc T) + 1 else (t_bc T))) (lN P) (lN Q) (lN G) (lN (ckey (t_tn T) (t_kc T) (t_kp T))) (lN (t_pa T)) (lN (t_pb T)) (t_sht T) a0 a1 a2 a3 a4 a5 a6 a7 a8 a9 mb0 mb1 v9.1.2.2.2.2 mb2 mb3 mb4 mb5 hPc) (cwV 0 hts (gw_V gk_1004 gk_1005 gk_1006 gk_7 gk_1007) rfl rfl rfl (by decide +kernel) ⟨(Nat.le_of_ble_eq_true rfl), (Nat.le_of_ble_eq_true rfl)⟩) ⟨fun a U g mk q => ⟨q.1, q.2.1, va_K.moved (u := U) (U := U.calling g mk a) (Vm.Alike.refl U.vm) q.2.2⟩, va_recv hK hP (ci := 8) (q0 := 26) rfl rfl, fun U hU hW => ⟨rfl, hU, va_K.moved hW.alike hKc⟩⟩ rfl rfl hl.1 rfl (lv_room (Nat.le_of_ble_eq_true rfl)) d_law_1167 ⟨show cells + 8 + 0 + 0 ≤ 601024 by omega, show slots + 48 + 0 + 0 ≤ 7293034 by omega⟩) hS (fun q _ h => h.elim) (fun q h => h.elim) (fun r_26 w9 t9 H1 locs ht hvm hw9 hB hz1 hk1 hS => ?_)
      obtain rfl : H = H1 := hB.symm.trans ht
      have hw9 : r_26 = 0 := hw9
      subst hw9
      clear hPc hz1 hk1 hB
      refine lv_iload hx hb d_law_1170 (lv_at hl 1 rfl) ?_
      refine lv_icmp_eq (tgt := 1177) hx hb d_law_1172 (by decide) (fun c_27 => ?_) (fun c_27 => ?_)
      · -- taken
        refine lv_iload hx hb d_law_1177 (lv_at hl 1 rfl) ?_
        refine lv_if_ne (tgt := 1194) hx hb d_law_1179 (by decide) (fun c_28 => ?_) (fun c_28 => ?_)
        · -- taken
          exact absurd rfl c_28
        · -- not taken
          refine lv_aload_n hx hb d_law_1182 rfl (lv_at hl 3 rfl) ?_
          refine lv_iconst (v := 0) hx hb d_law_1183 (by decide) ?_
          refine va_lald hx hb hK hP 0 0 rfl rfl (vp_lit rfl) d_law_1184 ?_
          refine lv_topl (fun v_29 ev_29 => ?_)
          obtain rfl : v_29 = lN n := ev_29.trans rfl
          refine lv_iload hx hb d_law_1185 (lv_at hl 0 rfl) ?_
          refine lv_i2l (v := (nI n : Int32).toInt64) hx hb d_law_1187 rfl ?_
          refine W.lcmp hx hb d_law_1188 ?_
          refine lv_if_eq (tgt := 1194) hx hb d_law_1189 (by decide) (fun c_30 => ?_) (fun c_30 => ?_)
          · -- taken
            refine lv_goto (tgt := 1965) hx hb d_law_1194 (by decide) ?_
            refine W.widen (k := cells + 20) (n := slots + 200) (by omega) (by omega) ?_
            have hI9 : LI dC dI cJ cI cR A out b0 m0 H := LG.mk hP hD (rel_bal hR hI hs hkk.2 hn9 hh rfl (congrArg lkw (msg8 hn0 hcfR)))
            exact cont _ _ _ hS hI9 (lv_sub hl [2, 3, 4, 5, 6] rfl)
          · -- not taken
            exact absurd (lgc (nI_l (by omega)).symm) c_30
      · -- not taken
        exact absurd c_27 (by decide)
