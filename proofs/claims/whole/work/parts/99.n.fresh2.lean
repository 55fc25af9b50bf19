set_option maxHeartbeats 16000000 in
set_option maxRecDepth 100000 in
theorem bk_share_f {p : Program} {l : Launch} {e : Env} {s : State} {m : MethodId} {below : List Frame} {meth : Method} {c : Code} {b L : Nat} {xs : Nat → Int32} {dC : Nat → ClassId} {dI : Nat → Nat → Nat} {cJ cI cR : ClassId} {A : Nat → Prop} {out b0 m0 : Nat} {rA sA wA : Nat} (C : LC p l s m meth c b L xs dC dI cJ cI cR A rA sA wA) {i cells slots : Nat} (hi : i + 14 ≤ L) (hcs : cells + 20 ≤ 601024 ∧ slots + 200 ≤ 7293034) (cont : LK p l e s m below meth c b dC dI cJ cI cR A out b0 m0 i (cells + 20) (slots + 200) 1965) {H : Heap} {locs : List Loc} {ls : Array Slot} (hS : va_S A s.heap H locs) (hI : LF dC dI cJ cI cR A out b0 m0 H) (hl : lv_has ls 8 [(4, .int (nI i)), (3, .ref out), (2, .ref m0), (1, .ref b0), (0, .ref b)]) : W p l e room_1 s m #[Value.ref b] below meth c H locs cells slots (lw_Z below #[Value.ref b] s) (F0 m 1241 ls []) := by
  obtain ⟨hnt, ⟨hx, hb, hr, hml, hown, hts0, hX, hbl, hlocks, hgv⟩, hK, hA, hbA, hZha, hZx, hZn, hZw, hL⟩ := C
  have hown : s.vm.findClass "BallotBoardLaw" = some m.cls := hown
  have hts := lw_hts hts0
  refine hI _ (fun bd0 pr0 t0 au0 da h0 ro lo rb lb cm aw ax ay ka aa ba sa tu0 uka uaa uba usa a0 a1 a2 a3 a4 a5 a6 a7 a8 a9 mb0 mb1 oc mb2 mb3 mb4 mb5 cL of w tf nf cf ky lf md sh ccf csc cst bf sc st kf sf vf ct gu d0 d1 d2 d3 d4 d5 d6 d7 e0 R Lk hP hD => ?_)
  obtain ⟨x1, hx1⟩ : ∃ v, v = xs (i + 1) := ⟨_, rfl⟩
  obtain ⟨x2, hx2⟩ : ∃ v, v = jl (xs (i + 2)) (xs (i + 3)) := ⟨_, rfl⟩
  obtain ⟨x3, hx3⟩ : ∃ v, v = jl (xs (i + 4)) (xs (i + 5)) := ⟨_, rfl⟩
  obtain ⟨x4, hx4⟩ : ∃ v, v = jl (xs (i + 6)) (xs (i + 7)) := ⟨_, rfl⟩
  refine lv_aload_n hx hb d_law_1241 rfl (lv_at hl 3 rfl) ?_
  refine lv_aload_n hx hb d_law_1242 rfl (lv_at hl 4 rfl) ?_
  refine lv_iload hx hb d_law_1243 (lv_at hl 0 rfl) ?_
  refine lv_iconst (v := 1) hx hb d_law_1245 (by decide) ?_
  refine lv_iadd hx hb d_law_1246 ?_
  rw [show ((nI i) + 1 : Int32) = nI (i + 1) from nI_add _ 1]
  refine va_sld hx hb hX hbl hbA hS (vp_in_nI (by omega) (by omega)) d_law_1247 ?_
  rw [show (xs (nI (i + 1)).toNatClampNeg : Int32) = xs (i + 1) from by rw [nI_clamp (by omega)]]
  rw [show (xs (i + 1) : Int32) = x1 from hx1.symm]
  refine lv_aload_n hx hb d_law_1248 rfl (lv_at hl 4 rfl) ?_
  refine lv_iload hx hb d_law_1249 (lv_at hl 0 rfl) ?_
  refine lv_iconst (v := 2) hx hb d_law_1251 (by decide) ?_
  refine lv_iadd hx hb d_law_1252 ?_
  rw [show ((nI i) + 2 : Int32) = nI (i + 2) from nI_add _ 2]
  refine va_sld hx hb hX hbl hbA hS (vp_in_nI (by omega) (by omega)) d_law_1253 ?_
  rw [show (xs (nI (i + 2)).toNatClampNeg : Int32) = xs (i + 2) from by rw [nI_clamp (by omega)]]
  refine lv_i2l (v := (xs (i + 2) : Int32).toInt64) hx hb d_law_1254 rfl ?_
  refine lv_bipush (v := 32) hx hb d_law_1255 (by decide) ?_
  refine lv_lshl (v := ((xs (i + 2) : Int32).toInt64 : Int64) <<< ((32 : Int32).toInt64 &&& 63)) hx hb d_law_1257 rfl ?_
  refine lv_aload_n hx hb d_law_1258 rfl (lv_at hl 4 rfl) ?_
  refine lv_iload hx hb d_law_1259 (lv_at hl 0 rfl) ?_
  refine lv_iconst (v := 3) hx hb d_law_1261 (by decide) ?_
  refine lv_iadd hx hb d_law_1262 ?_
  rw [show ((nI i) + 3 : Int32) = nI (i + 3) from nI_add _ 3]
  refine va_sld hx hb hX hbl hbA hS (vp_in_nI (by omega) (by omega)) d_law_1263 ?_
  rw [show (xs (nI (i + 3)).toNatClampNeg : Int32) = xs (i + 3) from by rw [nI_clamp (by omega)]]
  refine lv_i2l (v := (xs (i + 3) : Int32).toInt64) hx hb d_law_1264 rfl ?_
  refine lv_ldc2 (v := 4294967295) hx hb hown (hts _ (List.mem_cons_of_mem _ gk_1202)) d_law_1265 ?_
  refine lv_land hx hb d_law_1268 ?_
  refine lv_lor hx hb d_law_1269 ?_
  rw [show ((((xs (i + 2) : Int32).toInt64 : Int64) <<< ((32 : Int32).toInt64 &&& 63)) ||| (((xs (i + 3) : Int32).toInt64) &&& 4294967295) : Int64) = x2 from hx2.symm]
  refine lv_aload_n hx hb d_law_1270 rfl (lv_at hl 4 rfl) ?_
  refine lv_iload hx hb d_law_1271 (lv_at hl 0 rfl) ?_
  refine lv_iconst (v := 4) hx hb d_law_1273 (by decide) ?_
  refine lv_iadd hx hb d_law_1274 ?_
  rw [show ((nI i) + 4 : Int32) = nI (i + 4) from nI_add _ 4]
  refine va_sld hx hb hX hbl hbA hS (vp_in_nI (by omega) (by omega)) d_law_1275 ?_
  rw [show (xs (nI (i + 4)).toNatClampNeg : Int32) = xs (i + 4) from by rw [nI_clamp (by omega)]]
  refine lv_i2l (v := (xs (i + 4) : Int32).toInt64) hx hb d_law_1276 rfl ?_
  refine lv_bipush (v := 32) hx hb d_law_1277 (by decide) ?_
  refine lv_lshl (v := ((xs (i + 4) : Int32).toInt64 : Int64) <<< ((32 : Int32).toInt64 &&& 63)) hx hb d_law_1279 rfl ?_
  refine lv_aload_n hx hb d_law_1280 rfl (lv_at hl 4 rfl) ?_
  refine lv_iload hx hb d_law_1281 (lv_at hl 0 rfl) ?_
  refine lv_iconst (v := 5) hx hb d_law_1283 (by decide) ?_
  refine lv_iadd hx hb d_law_1284 ?_
  rw [show ((nI i) + 5 : Int32) = nI (i + 5) from nI_add _ 5]
  refine va_sld hx hb hX hbl hbA hS (vp_in_nI (by omega) (by omega)) d_law_1285 ?_
  rw [show (xs (nI (i + 5)).toNatClampNeg : Int32) = xs (i + 5) from by rw [nI_clamp (by omega)]]
  refine lv_i2l (v := (xs (i + 5) : Int32).toInt64) hx hb d_law_1286 rfl ?_
  refine lv_ldc2 (v := 4294967295) hx hb hown (hts _ (List.mem_cons_of_mem _ gk_1202)) d_law_1287 ?_
  refine lv_land hx hb d_law_1290 ?_
  refine lv_lor hx hb d_law_1291 ?_
  rw [show ((((xs (i + 4) : Int32).toInt64 : Int64) <<< ((32 : Int32).toInt64 &&& 63)) ||| (((xs (i + 5) : Int32).toInt64) &&& 4294967295) : Int64) = x3 from hx3.symm]
  refine lv_aload_n hx hb d_law_1292 rfl (lv_at hl 4 rfl) ?_
  refine lv_iload hx hb d_law_1293 (lv_at hl 0 rfl) ?_
  refine lv_bipush (v := 6) hx hb d_law_1295 (by decide) ?_
  refine lv_iadd hx hb d_law_1297 ?_
  rw [show ((nI i) + 6 : Int32) = nI (i + 6) from nI_add _ 6]
  refine va_sld hx hb hX hbl hbA hS (vp_in_nI (by omega) (by omega)) d_law_1298 ?_
  rw [show (xs (nI (i + 6)).toNatClampNeg : Int32) = xs (i + 6) from by rw [nI_clamp (by omega)]]
  refine lv_i2l (v := (xs (i + 6) : Int32).toInt64) hx hb d_law_1299 rfl ?_
  refine lv_bipush (v := 32) hx hb d_law_1300 (by decide) ?_
  refine lv_lshl (v := ((xs (i + 6) : Int32).toInt64 : Int64) <<< ((32 : Int32).toInt64 &&& 63)) hx hb d_law_1302 rfl ?_
  refine lv_aload_n hx hb d_law_1303 rfl (lv_at hl 4 rfl) ?_
  refine lv_iload hx hb d_law_1304 (lv_at hl 0 rfl) ?_
  refine lv_bipush (v := 7) hx hb d_law_1306 (by decide) ?_
  refine lv_iadd hx hb d_law_1308 ?_
  rw [show ((nI i) + 7 : Int32) = nI (i + 7) from nI_add _ 7]
  refine va_sld hx hb hX hbl hbA hS (vp_in_nI (by omega) (by omega)) d_law_1309 ?_
  rw [show (xs (nI (i + 7)).toNatClampNeg : Int32) = xs (i + 7) from by rw [nI_clamp (by omega)]]
  refine lv_i2l (v := (xs (i + 7) : Int32).toInt64) hx hb d_law_1310 rfl ?_
  refine lv_ldc2 (v := 4294967295) hx hb hown (hts _ (List.mem_cons_of_mem _ gk_1202)) d_law_1311 ?_
  refine lv_land hx hb d_law_1314 ?_
  refine lv_lor hx hb d_law_1315 ?_
  rw [show ((((xs (i + 6) : Int32).toInt64 : Int64) <<< ((32 : Int32).toInt64 &&& 63)) ||| (((xs (i + 7) : Int32).toInt64) &&& 4294967295) : Int64) = x4 from hx4.symm]
  refine lv_aload_n hx hb d_law_1316 rfl (lv_at hl 1 rfl) ?_
  have hPc := hP.sub (ws' := (jw_ws out cJ 1 of ++ bb_ws b0 bd0 pr0 t0 au0 da .null)) [0, 1] rfl
  have hDc := hD.sub (ws' := (jw_ws out cJ 1 of ++ bb_ws b0 bd0 pr0 t0 au0 da .null)) [0, 1] (by decide) rfl
  have hKc := hK.sub (tys' := [(cJ, .long), (cI, .int), (cR, .array .long)]) [0, 1, 2] rfl
  have hFc := va_free (wc := (jw_ws out cJ 1 of ++ bb_ws b0 bd0 pr0 t0 au0 da .null)) hD hS hA [0, 1] rfl
  have hZc0 : xz (va_A (jw_ws out cJ 1 of ++ bb_ws b0 bd0 pr0 t0 au0 da .null) H.size) s H := (hZx.kept hS.2.1).narrow hFc
  have hZc1 : nc_Z s := hZn
  refine vx_calli (vx_runSX (hh := h_Lw_share) (As := [.ref b0, .int x1, .long x2, .long x3, .long x4, .ref out]) (rest := []) ⟨hx, hb, hml, hown, hts⟩ (c_Lw_share_n l hnt dC dI cJ cI cR H.size b0 bd0 pr0 t0 au0 da x1 x2 x3 x4 out of) (vx_cwSW 6 hts (gw_Sv gk_702 gk_703 gk_0 gk_704) rfl rfl rfl (by decide +kernel) ⟨(Nat.le_of_ble_eq_true rfl), (Nat.le_of_ble_eq_true rfl)⟩) ⟨fun a U g mk q => by obtain ⟨q0, q1, qP, qK, qD, qZ0, qZ1⟩ := q; exact ⟨q0, q1, qP, va_K.moved (u := U) (U := U.calling g mk a) (Vm.Alike.refl U.vm) qK, qD, xz.same (u := U) (U := U.calling g mk a) rfl qZ0, nc_Z.moved (u := U) (U := U.calling g mk a) (Vm.Alike.refl U.vm) qZ1⟩, fun U hU hW => ⟨rfl, by rw [hU], by rw [hU]; exact hPc, va_K.moved hW.alike hKc, hDc.weaken (fun _ _ _ _ => trivial), by rw [hU]; exact xz.warm hW hZc0, nc_Z.moved hW.alike hZc1⟩⟩ rfl rfl hl.1 rfl (lv_room (Nat.le_of_ble_eq_true rfl)) d_law_1317 ⟨show cells + 8 ≤ 601024 by omega, show slots + 48 ≤ 7293034 by omega⟩) hS (fun q _ h => hFc q h) hFc (fun q _ h => hFc q h) (fun E9 ce9 q9 u8 t9 H1 locs ht hvm hpx hbx hz1 hk1 hS hce hcv hcl => hpx.elim) (fun r_1 u9 t9 H1 locs ht hvm hw hB hz1 hk1 hS => ?_)
  obtain ⟨hP1, hK1, hD1⟩ := hB
  rw [ht] at hP1
  obtain ⟨hP, hD⟩ := va_joinQ (X := (jw_ws out cJ 1 of ++ (bb_ws b0 bd0 pr0 t0 au0 da .null ++ (rw_ws da cJ (r8 d0 d1 d2 d3 d4 d5 d6 d7) ++ (bd_ws bd0 h0 ro lo 0 cR (rrf rb) (rrf lb) ++ (pr_ws pr0 h0 cm cJ ccf ++ (ha_ws h0 aw ax ay cJ cI w csc cst cL ++ (tt_ws t0 ka aa ba sa .null cJ tZ ++ (au_ws au0 bd0 pr0 tu0 0 ++ (tt_ws tu0 uka uaa uba usa gu cJ tZ ++ (mo_ws m0 e0 0 0 0 0 0 0 0 0 0 0 a0 a1 a2 a3 a4 a5 a6 a7 a8 a9 mb0 mb1 oc mb2 mb3 mb4 mb5 ++ (iw_ws a7 cI 256 bf ++ (iw_ws a8 cI 64 sc ++ (iw_ws a9 cI 8 st ++ (iw_ws mb0 cI 8 kS ++ (iw_ws mb1 cI 64 kR ++ (jw_ws a2 cJ 4 tf ++ (jw_ws a0 cJ 1232 nf ++ (jw_ws a1 cJ 616 cf ++ (iw_ws a4 cI 4 kf ++ (jw_ws mb2 cJ 4 ky ++ (jw_ws a3 cJ 16 lf ++ (iw_ws a5 cI 4 sf ++ (iw_ws a6 cI 64 vf ++ (jw_ws mb3 cJ 128 md ++ (jw_ws mb4 cJ 4 sh ++ iw_ws mb5 cI 64 ct)))))))))))))))))))))))))) (cx := (jw_ws out cJ 1 of ++ bb_ws b0 bd0 pr0 t0 au0 da .null)) (wr := (rw_ws da cJ (r8 d0 d1 d2 d3 d4 d5 d6 d7) ++ (bd_ws bd0 h0 ro lo 0 cR (rrf rb) (rrf lb) ++ (pr_ws pr0 h0 cm cJ ccf ++ (ha_ws h0 aw ax ay cJ cI w csc cst cL ++ (tt_ws t0 ka aa ba sa .null cJ tZ ++ (au_ws au0 bd0 pr0 tu0 0 ++ (tt_ws tu0 uka uaa uba usa gu cJ tZ ++ (mo_ws m0 e0 0 0 0 0 0 0 0 0 0 0 a0 a1 a2 a3 a4 a5 a6 a7 a8 a9 mb0 mb1 oc mb2 mb3 mb4 mb5 ++ (iw_ws a7 cI 256 bf ++ (iw_ws a8 cI 64 sc ++ (iw_ws a9 cI 8 st ++ (iw_ws mb0 cI 8 kS ++ (iw_ws mb1 cI 64 kR ++ (jw_ws a2 cJ 4 tf ++ (jw_ws a0 cJ 1232 nf ++ (jw_ws a1 cJ 616 cf ++ (iw_ws a4 cI 4 kf ++ (jw_ws mb2 cJ 4 ky ++ (jw_ws a3 cJ 16 lf ++ (iw_ws a5 cI 4 sf ++ (iw_ws a6 cI 64 vf ++ (jw_ws mb3 cJ 128 md ++ (jw_ws mb4 cJ 4 sh ++ iw_ws mb5 cI 64 ct)))))))))))))))))))))))) (w1 := (jw_ws out cJ 1 of ++ bb_ws b0 bd0 pr0 t0 au0 da .null)) (pl := bpool rb lb cJ R Lk) hP hD [0, 1] [2, 3, 4, 5, 6, 7, 8, 9, 10, 11, 12, 13, 14, 15, 16, 17, 18, 19, 20, 21, 22, 23, 24, 25, 26, 27, 28, 29, 30, 31, 32, 33, 34, 35, 36, 37, 38, 39] rfl rfl (by decide) (by decide) hk1 hFc hP1 hD1
  have hP := hP.part (cx := (jw_ws out cJ 1 of ++ (bb_ws b0 bd0 pr0 t0 au0 da .null ++ (rw_ws da cJ (r8 d0 d1 d2 d3 d4 d5 d6 d7) ++ (bd_ws bd0 h0 ro lo 0 cR (rrf rb) (rrf lb) ++ (pr_ws pr0 h0 cm cJ ccf ++ (ha_ws h0 aw ax ay cJ cI w csc cst cL ++ (tt_ws t0 ka aa ba sa .null cJ tZ ++ (au_ws au0 bd0 pr0 tu0 0 ++ (tt_ws tu0 uka uaa uba usa gu cJ tZ ++ (mo_ws m0 e0 0 0 0 0 0 0 0 0 0 0 a0 a1 a2 a3 a4 a5 a6 a7 a8 a9 mb0 mb1 oc mb2 mb3 mb4 mb5 ++ (iw_ws a7 cI 256 bf ++ (iw_ws a8 cI 64 sc ++ (iw_ws a9 cI 8 st ++ (iw_ws mb0 cI 8 kS ++ (iw_ws mb1 cI 64 kR ++ (jw_ws a2 cJ 4 tf ++ (jw_ws a0 cJ 1232 nf ++ (jw_ws a1 cJ 616 cf ++ (iw_ws a4 cI 4 kf ++ (jw_ws mb2 cJ 4 ky ++ (jw_ws a3 cJ 16 lf ++ (iw_ws a5 cI 4 sf ++ (iw_ws a6 cI 64 vf ++ (jw_ws mb3 cJ 128 md ++ (jw_ws mb4 cJ 4 sh ++ iw_ws mb5 cI 64 ct)))))))))))))))))))))))))) [38, 39, 0, 1, 2, 3, 4, 5, 6, 7, 8, 9, 10, 11, 12, 13, 14, 15, 16, 17, 18, 19, 20, 21, 22, 23, 24, 25, 26, 27, 28, 29, 30, 31, 32, 33, 34, 35, 36, 37] rfl
  have hD := hD.part (cx := (jw_ws out cJ 1 of ++ (bb_ws b0 bd0 pr0 t0 au0 da .null ++ (rw_ws da cJ (r8 d0 d1 d2 d3 d4 d5 d6 d7) ++ (bd_ws bd0 h0 ro lo 0 cR (rrf rb) (rrf lb) ++ (pr_ws pr0 h0 cm cJ ccf ++ (ha_ws h0 aw ax ay cJ cI w csc cst cL ++ (tt_ws t0 ka aa ba sa .null cJ tZ ++ (au_ws au0 bd0 pr0 tu0 0 ++ (tt_ws tu0 uka uaa uba usa gu cJ tZ ++ (mo_ws m0 e0 0 0 0 0 0 0 0 0 0 0 a0 a1 a2 a3 a4 a5 a6 a7 a8 a9 mb0 mb1 oc mb2 mb3 mb4 mb5 ++ (iw_ws a7 cI 256 bf ++ (iw_ws a8 cI 64 sc ++ (iw_ws a9 cI 8 st ++ (iw_ws mb0 cI 8 kS ++ (iw_ws mb1 cI 64 kR ++ (jw_ws a2 cJ 4 tf ++ (jw_ws a0 cJ 1232 nf ++ (jw_ws a1 cJ 616 cf ++ (iw_ws a4 cI 4 kf ++ (jw_ws mb2 cJ 4 ky ++ (jw_ws a3 cJ 16 lf ++ (iw_ws a5 cI 4 sf ++ (iw_ws a6 cI 64 vf ++ (jw_ws mb3 cJ 128 md ++ (jw_ws mb4 cJ 4 sh ++ iw_ws mb5 cI 64 ct)))))))))))))))))))))))))) [38, 39, 0, 1, 2, 3, 4, 5, 6, 7, 8, 9, 10, 11, 12, 13, 14, 15, 16, 17, 18, 19, 20, 21, 22, 23, 24, 25, 26, 27, 28, 29, 30, 31, 32, 33, 34, 35, 36, 37] (by decide) rfl
  generalize H1 = H at hP hS ⊢
  clear hPc hDc hFc hP1 hD1 hK1 ht hk1 hz1
  have hr9 : r_1 = 1 := hw
  subst hr9
  refine lv_istore (lv' := [(5, .int 1), (4, .int (nI i)), (3, .ref out), (2, .ref m0), (1, .ref b0), (0, .ref b)]) hx hb d_law_1320 hl (by decide) rfl (fun ls hl => ?_)
  refine lv_aload_n hx hb d_law_1322 rfl (lv_at hl 3 rfl) ?_
  refine lv_aload_n hx hb d_law_1323 rfl (lv_at hl 5 rfl) ?_
  refine lv_iload hx hb d_law_1324 (lv_at hl 1 rfl) ?_
  refine lv_iconst (v := 1) hx hb d_law_1326 (by decide) ?_
  refine lv_iadd hx hb d_law_1327 ?_
  rw [show ((nI i) + 1 : Int32) = nI (i + 1) from nI_add _ 1]
  refine va_sld hx hb hX hbl hbA hS (vp_in_nI (by omega) (by omega)) d_law_1328 ?_
  rw [show (xs (nI (i + 1)).toNatClampNeg : Int32) = xs (i + 1) from by rw [nI_clamp (by omega)]]
  rw [show (xs (i + 1) : Int32) = x1 from hx1.symm]
  refine lv_aload_n hx hb d_law_1329 rfl (lv_at hl 5 rfl) ?_
  refine lv_iload hx hb d_law_1330 (lv_at hl 1 rfl) ?_
  refine lv_iconst (v := 2) hx hb d_law_1332 (by decide) ?_
  refine lv_iadd hx hb d_law_1333 ?_
  rw [show ((nI i) + 2 : Int32) = nI (i + 2) from nI_add _ 2]
  refine va_sld hx hb hX hbl hbA hS (vp_in_nI (by omega) (by omega)) d_law_1334 ?_
  rw [show (xs (nI (i + 2)).toNatClampNeg : Int32) = xs (i + 2) from by rw [nI_clamp (by omega)]]
  refine lv_i2l (v := (xs (i + 2) : Int32).toInt64) hx hb d_law_1335 rfl ?_
  refine lv_bipush (v := 32) hx hb d_law_1336 (by decide) ?_
  refine lv_lshl (v := ((xs (i + 2) : Int32).toInt64 : Int64) <<< ((32 : Int32).toInt64 &&& 63)) hx hb d_law_1338 rfl ?_
  refine lv_aload_n hx hb d_law_1339 rfl (lv_at hl 5 rfl) ?_
  refine lv_iload hx hb d_law_1340 (lv_at hl 1 rfl) ?_
  refine lv_iconst (v := 3) hx hb d_law_1342 (by decide) ?_
  refine lv_iadd hx hb d_law_1343 ?_
  rw [show ((nI i) + 3 : Int32) = nI (i + 3) from nI_add _ 3]
  refine va_sld hx hb hX hbl hbA hS (vp_in_nI (by omega) (by omega)) d_law_1344 ?_
  rw [show (xs (nI (i + 3)).toNatClampNeg : Int32) = xs (i + 3) from by rw [nI_clamp (by omega)]]
  refine lv_i2l (v := (xs (i + 3) : Int32).toInt64) hx hb d_law_1345 rfl ?_
  refine lv_ldc2 (v := 4294967295) hx hb hown (hts _ (List.mem_cons_of_mem _ gk_1202)) d_law_1346 ?_
  refine lv_land hx hb d_law_1349 ?_
  refine lv_lor hx hb d_law_1350 ?_
  rw [show ((((xs (i + 2) : Int32).toInt64 : Int64) <<< ((32 : Int32).toInt64 &&& 63)) ||| (((xs (i + 3) : Int32).toInt64) &&& 4294967295) : Int64) = x2 from hx2.symm]
  refine lv_aload_n hx hb d_law_1351 rfl (lv_at hl 5 rfl) ?_
  refine lv_iload hx hb d_law_1352 (lv_at hl 1 rfl) ?_
  refine lv_iconst (v := 4) hx hb d_law_1354 (by decide) ?_
  refine lv_iadd hx hb d_law_1355 ?_
  rw [show ((nI i) + 4 : Int32) = nI (i + 4) from nI_add _ 4]
  refine va_sld hx hb hX hbl hbA hS (vp_in_nI (by omega) (by omega)) d_law_1356 ?_
  rw [show (xs (nI (i + 4)).toNatClampNeg : Int32) = xs (i + 4) from by rw [nI_clamp (by omega)]]
  refine lv_i2l (v := (xs (i + 4) : Int32).toInt64) hx hb d_law_1357 rfl ?_
  refine lv_bipush (v := 32) hx hb d_law_1358 (by decide) ?_
  refine lv_lshl (v := ((xs (i + 4) : Int32).toInt64 : Int64) <<< ((32 : Int32).toInt64 &&& 63)) hx hb d_law_1360 rfl ?_
  refine lv_aload_n hx hb d_law_1361 rfl (lv_at hl 5 rfl) ?_
  refine lv_iload hx hb d_law_1362 (lv_at hl 1 rfl) ?_
  refine lv_iconst (v := 5) hx hb d_law_1364 (by decide) ?_
  refine lv_iadd hx hb d_law_1365 ?_
  rw [show ((nI i) + 5 : Int32) = nI (i + 5) from nI_add _ 5]
  refine va_sld hx hb hX hbl hbA hS (vp_in_nI (by omega) (by omega)) d_law_1366 ?_
  rw [show (xs (nI (i + 5)).toNatClampNeg : Int32) = xs (i + 5) from by rw [nI_clamp (by omega)]]
  refine lv_i2l (v := (xs (i + 5) : Int32).toInt64) hx hb d_law_1367 rfl ?_
  refine lv_ldc2 (v := 4294967295) hx hb hown (hts _ (List.mem_cons_of_mem _ gk_1202)) d_law_1368 ?_
  refine lv_land hx hb d_law_1371 ?_
  refine lv_lor hx hb d_law_1372 ?_
  rw [show ((((xs (i + 4) : Int32).toInt64 : Int64) <<< ((32 : Int32).toInt64 &&& 63)) ||| (((xs (i + 5) : Int32).toInt64) &&& 4294967295) : Int64) = x3 from hx3.symm]
  refine lv_aload_n hx hb d_law_1373 rfl (lv_at hl 5 rfl) ?_
  refine lv_iload hx hb d_law_1374 (lv_at hl 1 rfl) ?_
  refine lv_bipush (v := 6) hx hb d_law_1376 (by decide) ?_
  refine lv_iadd hx hb d_law_1378 ?_
  rw [show ((nI i) + 6 : Int32) = nI (i + 6) from nI_add _ 6]
  refine va_sld hx hb hX hbl hbA hS (vp_in_nI (by omega) (by omega)) d_law_1379 ?_
  rw [show (xs (nI (i + 6)).toNatClampNeg : Int32) = xs (i + 6) from by rw [nI_clamp (by omega)]]
  refine lv_i2l (v := (xs (i + 6) : Int32).toInt64) hx hb d_law_1380 rfl ?_
  refine lv_bipush (v := 32) hx hb d_law_1381 (by decide) ?_
  refine lv_lshl (v := ((xs (i + 6) : Int32).toInt64 : Int64) <<< ((32 : Int32).toInt64 &&& 63)) hx hb d_law_1383 rfl ?_
  refine lv_aload_n hx hb d_law_1384 rfl (lv_at hl 5 rfl) ?_
  refine lv_iload hx hb d_law_1385 (lv_at hl 1 rfl) ?_
  refine lv_bipush (v := 7) hx hb d_law_1387 (by decide) ?_
  refine lv_iadd hx hb d_law_1389 ?_
  rw [show ((nI i) + 7 : Int32) = nI (i + 7) from nI_add _ 7]
  refine va_sld hx hb hX hbl hbA hS (vp_in_nI (by omega) (by omega)) d_law_1390 ?_
  rw [show (xs (nI (i + 7)).toNatClampNeg : Int32) = xs (i + 7) from by rw [nI_clamp (by omega)]]
  refine lv_i2l (v := (xs (i + 7) : Int32).toInt64) hx hb d_law_1391 rfl ?_
  refine lv_ldc2 (v := 4294967295) hx hb hown (hts _ (List.mem_cons_of_mem _ gk_1202)) d_law_1392 ?_
  refine lv_land hx hb d_law_1395 ?_
  refine lv_lor hx hb d_law_1396 ?_
  rw [show ((((xs (i + 6) : Int32).toInt64 : Int64) <<< ((32 : Int32).toInt64 &&& 63)) ||| (((xs (i + 7) : Int32).toInt64) &&& 4294967295) : Int64) = x4 from hx4.symm]
  have hPc := hP.sub (ws' := (mo_ws m0 e0 0 0 0 0 0 0 0 0 0 0 a0 a1 a2 a3 a4 a5 a6 a7 a8 a9 mb0 mb1 oc mb2 mb3 mb4 mb5)) [23] rfl
  have hDc := hD.sub (ws' := (mo_ws m0 e0 0 0 0 0 0 0 0 0 0 0 a0 a1 a2 a3 a4 a5 a6 a7 a8 a9 mb0 mb1 oc mb2 mb3 mb4 mb5)) [23] (by decide) rfl
  have hKc := hK.sub (tys' := [(cJ, .long), (cI, .int)]) [0, 1] rfl
  have hFc := va_free (wc := (mo_ws m0 e0 0 0 0 0 0 0 0 0 0 0 a0 a1 a2 a3 a4 a5 a6 a7 a8 a9 mb0 mb1 oc mb2 mb3 mb4 mb5)) hD hS hA [23] rfl
  refine va_calli (va_runV (As := [.int x1, .long x2, .long x3, .long x4]) (rest := []) ⟨hx, hb, hml, hown, hts⟩ (c_Bm_share_n l dC dI cJ cI H.size m0 e0 0 0 0 0 0 0 0 0 0 0 a0 a1 a2 a3 a4 a5 a6 a7 a8 a9 mb0 mb1 oc mb2 mb3 mb4 mb5 x1 x2 x3 x4 rfl) (cwV 4 hts (gw_V gk_1149 gk_1150 gk_1151 gk_7 gk_1152) rfl rfl rfl (by decide +kernel) ⟨(Nat.le_of_ble_eq_true rfl), (Nat.le_of_ble_eq_true rfl)⟩) ⟨fun a U g mk q => by obtain ⟨q0, q1, qP, qK, qD⟩ := q; exact ⟨q0, q1, qP, va_K.moved (u := U) (U := U.calling g mk a) (Vm.Alike.refl U.vm) qK, qD⟩, va_recv hK hP (ci := 8) (q0 := 23) rfl rfl, fun U hU hW => ⟨rfl, by rw [hU], by rw [hU]; exact hPc, va_K.moved hW.alike hKc, hDc.weaken (fun _ _ _ _ => trivial)⟩⟩ rfl rfl hl.1 rfl (lv_room (Nat.le_of_ble_eq_true rfl)) d_law_1397 ⟨show cells + 8 + 0 ≤ 601024 by omega, show slots + 48 + 0 ≤ 7293034 by omega⟩) hS (fun q _ h => hFc q h) hFc (fun r_2 v9 t9 H1 locs ht hvm hw hB hz1 hk1 hS => ?_)
  obtain ⟨hP1, hK1, hD1⟩ := hB
  rw [ht] at hP1
  obtain ⟨hP, hD⟩ := va_joinQ (X := (jw_ws out cJ 1 of ++ (bb_ws b0 bd0 pr0 t0 au0 da .null ++ (rw_ws da cJ (r8 d0 d1 d2 d3 d4 d5 d6 d7) ++ (bd_ws bd0 h0 ro lo 0 cR (rrf rb) (rrf lb) ++ (pr_ws pr0 h0 cm cJ ccf ++ (ha_ws h0 aw ax ay cJ cI w csc cst cL ++ (tt_ws t0 ka aa ba sa .null cJ tZ ++ (au_ws au0 bd0 pr0 tu0 0 ++ (tt_ws tu0 uka uaa uba usa gu cJ tZ ++ (mo_ws m0 e0 0 0 0 0 0 0 0 0 0 0 a0 a1 a2 a3 a4 a5 a6 a7 a8 a9 mb0 mb1 oc mb2 mb3 mb4 mb5 ++ (iw_ws a7 cI 256 bf ++ (iw_ws a8 cI 64 sc ++ (iw_ws a9 cI 8 st ++ (iw_ws mb0 cI 8 kS ++ (iw_ws mb1 cI 64 kR ++ (jw_ws a2 cJ 4 tf ++ (jw_ws a0 cJ 1232 nf ++ (jw_ws a1 cJ 616 cf ++ (iw_ws a4 cI 4 kf ++ (jw_ws mb2 cJ 4 ky ++ (jw_ws a3 cJ 16 lf ++ (iw_ws a5 cI 4 sf ++ (iw_ws a6 cI 64 vf ++ (jw_ws mb3 cJ 128 md ++ (jw_ws mb4 cJ 4 sh ++ iw_ws mb5 cI 64 ct)))))))))))))))))))))))))) (cx := (mo_ws m0 e0 0 0 0 0 0 0 0 0 0 0 a0 a1 a2 a3 a4 a5 a6 a7 a8 a9 mb0 mb1 oc mb2 mb3 mb4 mb5)) (wr := (jw_ws out cJ 1 of ++ (bb_ws b0 bd0 pr0 t0 au0 da .null ++ (rw_ws da cJ (r8 d0 d1 d2 d3 d4 d5 d6 d7) ++ (bd_ws bd0 h0 ro lo 0 cR (rrf rb) (rrf lb) ++ (pr_ws pr0 h0 cm cJ ccf ++ (ha_ws h0 aw ax ay cJ cI w csc cst cL ++ (tt_ws t0 ka aa ba sa .null cJ tZ ++ (au_ws au0 bd0 pr0 tu0 0 ++ (tt_ws tu0 uka uaa uba usa gu cJ tZ ++ (iw_ws a7 cI 256 bf ++ (iw_ws a8 cI 64 sc ++ (iw_ws a9 cI 8 st ++ (iw_ws mb0 cI 8 kS ++ (iw_ws mb1 cI 64 kR ++ (jw_ws a2 cJ 4 tf ++ (jw_ws a0 cJ 1232 nf ++ (jw_ws a1 cJ 616 cf ++ (iw_ws a4 cI 4 kf ++ (jw_ws mb2 cJ 4 ky ++ (jw_ws a3 cJ 16 lf ++ (iw_ws a5 cI 4 sf ++ (iw_ws a6 cI 64 vf ++ (jw_ws mb3 cJ 128 md ++ (jw_ws mb4 cJ 4 sh ++ iw_ws mb5 cI 64 ct))))))))))))))))))))))))) (w1 := (mo_ws m0 1 0 0 0 0 0 0 0 0 0 0 a0 a1 a2 a3 a4 a5 a6 a7 a8 a9 mb0 mb1 oc mb2 mb3 mb4 mb5)) (pl := bpool rb lb cJ R Lk) hP hD [23] [0, 1, 2, 3, 4, 5, 6, 7, 8, 9, 10, 11, 12, 13, 14, 15, 16, 17, 18, 19, 20, 21, 22, 24, 25, 26, 27, 28, 29, 30, 31, 32, 33, 34, 35, 36, 37, 38, 39] rfl rfl (by decide) (by decide) hk1 hFc hP1 hD1
  have hP := hP.part (cx := (jw_ws out cJ 1 of ++ (bb_ws b0 bd0 pr0 t0 au0 da .null ++ (rw_ws da cJ (r8 d0 d1 d2 d3 d4 d5 d6 d7) ++ (bd_ws bd0 h0 ro lo 0 cR (rrf rb) (rrf lb) ++ (pr_ws pr0 h0 cm cJ ccf ++ (ha_ws h0 aw ax ay cJ cI w csc cst cL ++ (tt_ws t0 ka aa ba sa .null cJ tZ ++ (au_ws au0 bd0 pr0 tu0 0 ++ (tt_ws tu0 uka uaa uba usa gu cJ tZ ++ (mo_ws m0 1 0 0 0 0 0 0 0 0 0 0 a0 a1 a2 a3 a4 a5 a6 a7 a8 a9 mb0 mb1 oc mb2 mb3 mb4 mb5 ++ (iw_ws a7 cI 256 bf ++ (iw_ws a8 cI 64 sc ++ (iw_ws a9 cI 8 st ++ (iw_ws mb0 cI 8 kS ++ (iw_ws mb1 cI 64 kR ++ (jw_ws a2 cJ 4 tf ++ (jw_ws a0 cJ 1232 nf ++ (jw_ws a1 cJ 616 cf ++ (iw_ws a4 cI 4 kf ++ (jw_ws mb2 cJ 4 ky ++ (jw_ws a3 cJ 16 lf ++ (iw_ws a5 cI 4 sf ++ (iw_ws a6 cI 64 vf ++ (jw_ws mb3 cJ 128 md ++ (jw_ws mb4 cJ 4 sh ++ iw_ws mb5 cI 64 ct)))))))))))))))))))))))))) [0, 1, 2, 3, 4, 5, 6, 7, 8, 9, 10, 11, 12, 13, 14, 15, 16, 17, 18, 19, 20, 21, 22, 39, 23, 24, 25, 26, 27, 28, 29, 30, 31, 32, 33, 34, 35, 36, 37, 38] rfl
  have hD := hD.part (cx := (jw_ws out cJ 1 of ++ (bb_ws b0 bd0 pr0 t0 au0 da .null ++ (rw_ws da cJ (r8 d0 d1 d2 d3 d4 d5 d6 d7) ++ (bd_ws bd0 h0 ro lo 0 cR (rrf rb) (rrf lb) ++ (pr_ws pr0 h0 cm cJ ccf ++ (ha_ws h0 aw ax ay cJ cI w csc cst cL ++ (tt_ws t0 ka aa ba sa .null cJ tZ ++ (au_ws au0 bd0 pr0 tu0 0 ++ (tt_ws tu0 uka uaa uba usa gu cJ tZ ++ (mo_ws m0 1 0 0 0 0 0 0 0 0 0 0 a0 a1 a2 a3 a4 a5 a6 a7 a8 a9 mb0 mb1 oc mb2 mb3 mb4 mb5 ++ (iw_ws a7 cI 256 bf ++ (iw_ws a8 cI 64 sc ++ (iw_ws a9 cI 8 st ++ (iw_ws mb0 cI 8 kS ++ (iw_ws mb1 cI 64 kR ++ (jw_ws a2 cJ 4 tf ++ (jw_ws a0 cJ 1232 nf ++ (jw_ws a1 cJ 616 cf ++ (iw_ws a4 cI 4 kf ++ (jw_ws mb2 cJ 4 ky ++ (jw_ws a3 cJ 16 lf ++ (iw_ws a5 cI 4 sf ++ (iw_ws a6 cI 64 vf ++ (jw_ws mb3 cJ 128 md ++ (jw_ws mb4 cJ 4 sh ++ iw_ws mb5 cI 64 ct)))))))))))))))))))))))))) [0, 1, 2, 3, 4, 5, 6, 7, 8, 9, 10, 11, 12, 13, 14, 15, 16, 17, 18, 19, 20, 21, 22, 39, 23, 24, 25, 26, 27, 28, 29, 30, 31, 32, 33, 34, 35, 36, 37, 38] (by decide) rfl
  generalize H1 = H at hP hS ⊢
  clear hPc hDc hFc hP1 hD1 hK1 ht hk1 hz1
  refine lv_istore (lv' := [(6, .int r_2), (5, .int 1), (4, .int (nI i)), (3, .ref out), (2, .ref m0), (1, .ref b0), (0, .ref b)]) hx hb d_law_1400 hl (by decide) rfl (fun ls hl => ?_)
  refine lv_aload_n hx hb d_law_1402 rfl (lv_at hl 4 rfl) ?_
  have hPc := hP.sub (ws' := (mo_ws m0 1 0 0 0 0 0 0 0 0 0 0 a0 a1 a2 a3 a4 a5 a6 a7 a8 a9 mb0 mb1 oc mb2 mb3 mb4 mb5)) [23] rfl
  have hKc := hK.sub (tys' := [(cJ, .long), (cI, .int)]) [0, 1] rfl
  refine va_calli (va_runV (As := []) (rest := []) ⟨hx, hb, hml, hown, hts⟩ (c_Bm_thrown l H dC dI cJ cI m0 1 0 0 0 0 0 0 0 0 0 0 a0 a1 a2 a3 a4 a5 a6 a7 a8 a9 mb0 mb1 oc mb2 mb3 mb4 mb5 hPc) (cwV 0 hts (gw_V gk_1004 gk_1005 gk_1006 gk_7 gk_1007) rfl rfl rfl (by decide +kernel) ⟨(Nat.le_of_ble_eq_true rfl), (Nat.le_of_ble_eq_true rfl)⟩) ⟨fun a U g mk q => ⟨q.1, q.2.1, va_K.moved (u := U) (U := U.calling g mk a) (Vm.Alike.refl U.vm) q.2.2⟩, va_recv hK hP (ci := 8) (q0 := 23) rfl rfl, fun U hU hW => ⟨rfl, hU, va_K.moved hW.alike hKc⟩⟩ rfl rfl hl.1 rfl (lv_room (Nat.le_of_ble_eq_true rfl)) d_law_1403 ⟨show cells + 8 + 0 + 0 ≤ 601024 by omega, show slots + 48 + 0 + 0 ≤ 7293034 by omega⟩) hS (fun q _ h => h.elim) (fun q h => h.elim) (fun r_3 w9 t9 H1 locs ht hvm hw9 hB hz1 hk1 hS => ?_)
  obtain rfl : H = H1 := hB.symm.trans ht
  have hw9 : r_3 = 1 := hw9
  subst hw9
  clear hPc hz1 hk1 hB
  refine lv_iload hx hb d_law_1406 (lv_at hl 1 rfl) ?_
  refine lv_icmp_eq (tgt := 1413) hx hb d_law_1408 (by decide) (fun c_4 => ?_) (fun c_4 => ?_)
  · -- taken
    refine lv_iload hx hb d_law_1413 (lv_at hl 1 rfl) ?_
    refine lv_if_ne (tgt := 1430) hx hb d_law_1415 (by decide) (fun c_5 => ?_) (fun c_5 => ?_)
    · -- taken
      refine lv_goto (tgt := 1965) hx hb d_law_1430 (by decide) ?_
      refine W.widen (k := cells + 20) (n := slots + 200) (by omega) (by omega) ?_
      have hI9 : LI dC dI cJ cI cR A out b0 m0 H := LF.mk hP hD
      exact cont _ _ _ hS hI9 (lv_sub hl [2, 3, 4, 5, 6] rfl)
    · -- not taken
      exact absurd c_5 (by decide)
  · -- not taken
    exact absurd c_4 (by decide)
set_option maxHeartbeats 16000000 in
set_option maxRecDepth 100000 in
theorem bk_makeShare_f {p : Program} {l : Launch} {e : Env} {s : State} {m : MethodId} {below : List Frame} {meth : Method} {c : Code} {b L : Nat} {xs : Nat → Int32} {dC : Nat → ClassId} {dI : Nat → Nat → Nat} {cJ cI cR : ClassId} {A : Nat → Prop} {out b0 m0 : Nat} {rA sA wA : Nat} (C : LC p l s m meth c b L xs dC dI cJ cI cR A rA sA wA) {i cells slots : Nat} (hi : i + 14 ≤ L) (hcs : cells + 20 ≤ 601024 ∧ slots + 200 ≤ 7293034) (cont : LK p l e s m below meth c b dC dI cJ cI cR A out b0 m0 i (cells + 20) (slots + 200) 1965) {H : Heap} {locs : List Loc} {ls : Array Slot} (hS : va_S A s.heap H locs) (hI : LF dC dI cJ cI cR A out b0 m0 H) (hl : lv_has ls 8 [(4, .int (nI i)), (3, .ref out), (2, .ref m0), (1, .ref b0), (0, .ref b)]) : W p l e room_1 s m #[Value.ref b] below meth c H locs cells slots (lw_Z below #[Value.ref b] s) (F0 m 1433 ls []) := by
  obtain ⟨hnt, ⟨hx, hb, hr, hml, hown, hts0, hX, hbl, hlocks, hgv⟩, hK, hA, hbA, hZha, hZx, hZn, hZw, hL⟩ := C
  have hown : s.vm.findClass "BallotBoardLaw" = some m.cls := hown
  have hts := lw_hts hts0
  refine hI _ (fun bd0 pr0 t0 au0 da h0 ro lo rb lb cm aw ax ay ka aa ba sa tu0 uka uaa uba usa a0 a1 a2 a3 a4 a5 a6 a7 a8 a9 mb0 mb1 oc mb2 mb3 mb4 mb5 cL of w tf nf cf ky lf md sh ccf csc cst bf sc st kf sf vf ct gu d0 d1 d2 d3 d4 d5 d6 d7 e0 R Lk hP hD => ?_)
  obtain ⟨x1, hx1⟩ : ∃ v, v = xs (i + 1) := ⟨_, rfl⟩
  obtain ⟨x2, hx2⟩ : ∃ v, v = jl (xs (i + 2)) (xs (i + 3)) := ⟨_, rfl⟩
  obtain ⟨x3, hx3⟩ : ∃ v, v = jl (xs (i + 4)) (xs (i + 5)) := ⟨_, rfl⟩
  refine lv_aload_n hx hb d_law_1433 rfl (lv_at hl 3 rfl) ?_
  refine lv_aload_n hx hb d_law_1434 rfl (lv_at hl 4 rfl) ?_
  refine lv_iload hx hb d_law_1435 (lv_at hl 0 rfl) ?_
  refine lv_iconst (v := 1) hx hb d_law_1437 (by decide) ?_
  refine lv_iadd hx hb d_law_1438 ?_
  rw [show ((nI i) + 1 : Int32) = nI (i + 1) from nI_add _ 1]
  refine va_sld hx hb hX hbl hbA hS (vp_in_nI (by omega) (by omega)) d_law_1439 ?_
  rw [show (xs (nI (i + 1)).toNatClampNeg : Int32) = xs (i + 1) from by rw [nI_clamp (by omega)]]
  rw [show (xs (i + 1) : Int32) = x1 from hx1.symm]
  refine lv_aload_n hx hb d_law_1440 rfl (lv_at hl 4 rfl) ?_
  refine lv_iload hx hb d_law_1441 (lv_at hl 0 rfl) ?_
  refine lv_iconst (v := 2) hx hb d_law_1443 (by decide) ?_
  refine lv_iadd hx hb d_law_1444 ?_
  rw [show ((nI i) + 2 : Int32) = nI (i + 2) from nI_add _ 2]
  refine va_sld hx hb hX hbl hbA hS (vp_in_nI (by omega) (by omega)) d_law_1445 ?_
  rw [show (xs (nI (i + 2)).toNatClampNeg : Int32) = xs (i + 2) from by rw [nI_clamp (by omega)]]
  refine lv_i2l (v := (xs (i + 2) : Int32).toInt64) hx hb d_law_1446 rfl ?_
  refine lv_bipush (v := 32) hx hb d_law_1447 (by decide) ?_
  refine lv_lshl (v := ((xs (i + 2) : Int32).toInt64 : Int64) <<< ((32 : Int32).toInt64 &&& 63)) hx hb d_law_1449 rfl ?_
  refine lv_aload_n hx hb d_law_1450 rfl (lv_at hl 4 rfl) ?_
  refine lv_iload hx hb d_law_1451 (lv_at hl 0 rfl) ?_
  refine lv_iconst (v := 3) hx hb d_law_1453 (by decide) ?_
  refine lv_iadd hx hb d_law_1454 ?_
  rw [show ((nI i) + 3 : Int32) = nI (i + 3) from nI_add _ 3]
  refine va_sld hx hb hX hbl hbA hS (vp_in_nI (by omega) (by omega)) d_law_1455 ?_
  rw [show (xs (nI (i + 3)).toNatClampNeg : Int32) = xs (i + 3) from by rw [nI_clamp (by omega)]]
  refine lv_i2l (v := (xs (i + 3) : Int32).toInt64) hx hb d_law_1456 rfl ?_
  refine lv_ldc2 (v := 4294967295) hx hb hown (hts _ (List.mem_cons_of_mem _ gk_1202)) d_law_1457 ?_
  refine lv_land hx hb d_law_1460 ?_
  refine lv_lor hx hb d_law_1461 ?_
  rw [show ((((xs (i + 2) : Int32).toInt64 : Int64) <<< ((32 : Int32).toInt64 &&& 63)) ||| (((xs (i + 3) : Int32).toInt64) &&& 4294967295) : Int64) = x2 from hx2.symm]
  refine lv_aload_n hx hb d_law_1462 rfl (lv_at hl 4 rfl) ?_
  refine lv_iload hx hb d_law_1463 (lv_at hl 0 rfl) ?_
  refine lv_iconst (v := 4) hx hb d_law_1465 (by decide) ?_
  refine lv_iadd hx hb d_law_1466 ?_
  rw [show ((nI i) + 4 : Int32) = nI (i + 4) from nI_add _ 4]
  refine va_sld hx hb hX hbl hbA hS (vp_in_nI (by omega) (by omega)) d_law_1467 ?_
  rw [show (xs (nI (i + 4)).toNatClampNeg : Int32) = xs (i + 4) from by rw [nI_clamp (by omega)]]
  refine lv_i2l (v := (xs (i + 4) : Int32).toInt64) hx hb d_law_1468 rfl ?_
  refine lv_bipush (v := 32) hx hb d_law_1469 (by decide) ?_
  refine lv_lshl (v := ((xs (i + 4) : Int32).toInt64 : Int64) <<< ((32 : Int32).toInt64 &&& 63)) hx hb d_law_1471 rfl ?_
  refine lv_aload_n hx hb d_law_1472 rfl (lv_at hl 4 rfl) ?_
  refine lv_iload hx hb d_law_1473 (lv_at hl 0 rfl) ?_
  refine lv_iconst (v := 5) hx hb d_law_1475 (by decide) ?_
  refine lv_iadd hx hb d_law_1476 ?_
  rw [show ((nI i) + 5 : Int32) = nI (i + 5) from nI_add _ 5]
  refine va_sld hx hb hX hbl hbA hS (vp_in_nI (by omega) (by omega)) d_law_1477 ?_
  rw [show (xs (nI (i + 5)).toNatClampNeg : Int32) = xs (i + 5) from by rw [nI_clamp (by omega)]]
  refine lv_i2l (v := (xs (i + 5) : Int32).toInt64) hx hb d_law_1478 rfl ?_
  refine lv_ldc2 (v := 4294967295) hx hb hown (hts _ (List.mem_cons_of_mem _ gk_1202)) d_law_1479 ?_
  refine lv_land hx hb d_law_1482 ?_
  refine lv_lor hx hb d_law_1483 ?_
  rw [show ((((xs (i + 4) : Int32).toInt64 : Int64) <<< ((32 : Int32).toInt64 &&& 63)) ||| (((xs (i + 5) : Int32).toInt64) &&& 4294967295) : Int64) = x3 from hx3.symm]
  refine lv_aload_n hx hb d_law_1484 rfl (lv_at hl 1 rfl) ?_
  have hPc := hP.sub (ws' := (jw_ws out cJ 1 of ++ bb_ws b0 bd0 pr0 t0 au0 da .null)) [0, 1] rfl
  have hDc := hD.sub (ws' := (jw_ws out cJ 1 of ++ bb_ws b0 bd0 pr0 t0 au0 da .null)) [0, 1] (by decide) rfl
  have hKc := hK.sub (tys' := [(cJ, .long), (cI, .int), (cR, .array .long)]) [0, 1, 2] rfl
  have hFc := va_free (wc := (jw_ws out cJ 1 of ++ bb_ws b0 bd0 pr0 t0 au0 da .null)) hD hS hA [0, 1] rfl
  have hZc0 : xz (va_A (jw_ws out cJ 1 of ++ bb_ws b0 bd0 pr0 t0 au0 da .null) H.size) s H := (hZx.kept hS.2.1).narrow hFc
  have hZc1 : nc_Z s := hZn
  refine vx_calli (vx_runSX (hh := h_Lw_makeShare) (As := [.ref b0, .int x1, .long x2, .long x3, .ref out]) (rest := []) ⟨hx, hb, hml, hown, hts⟩ (c_Lw_makeShare_n l hnt dC dI cJ cI cR H.size b0 bd0 pr0 t0 au0 da x1 x2 x3 out of) (vx_cwSW 5 hts (gw_Sv gk_723 gk_724 gk_0 gk_725) rfl rfl rfl (by decide +kernel) ⟨(Nat.le_of_ble_eq_true rfl), (Nat.le_of_ble_eq_true rfl)⟩) ⟨fun a U g mk q => by obtain ⟨q0, q1, qP, qK, qD, qZ0, qZ1⟩ := q; exact ⟨q0, q1, qP, va_K.moved (u := U) (U := U.calling g mk a) (Vm.Alike.refl U.vm) qK, qD, xz.same (u := U) (U := U.calling g mk a) rfl qZ0, nc_Z.moved (u := U) (U := U.calling g mk a) (Vm.Alike.refl U.vm) qZ1⟩, fun U hU hW => ⟨rfl, by rw [hU], by rw [hU]; exact hPc, va_K.moved hW.alike hKc, hDc.weaken (fun _ _ _ _ => trivial), by rw [hU]; exact xz.warm hW hZc0, nc_Z.moved hW.alike hZc1⟩⟩ rfl rfl hl.1 rfl (lv_room (Nat.le_of_ble_eq_true rfl)) d_law_1485 ⟨show cells + 8 ≤ 601024 by omega, show slots + 48 ≤ 7293034 by omega⟩) hS (fun q _ h => hFc q h) hFc (fun q _ h => hFc q h) (fun E9 ce9 q9 u8 t9 H1 locs ht hvm hpx hbx hz1 hk1 hS hce hcv hcl => hpx.elim) (fun r_1 u9 t9 H1 locs ht hvm hw hB hz1 hk1 hS => ?_)
  obtain ⟨hP1, hK1, hD1⟩ := hB
  rw [ht] at hP1
  obtain ⟨hP, hD⟩ := va_joinQ (X := (jw_ws out cJ 1 of ++ (bb_ws b0 bd0 pr0 t0 au0 da .null ++ (rw_ws da cJ (r8 d0 d1 d2 d3 d4 d5 d6 d7) ++ (bd_ws bd0 h0 ro lo 0 cR (rrf rb) (rrf lb) ++ (pr_ws pr0 h0 cm cJ ccf ++ (ha_ws h0 aw ax ay cJ cI w csc cst cL ++ (tt_ws t0 ka aa ba sa .null cJ tZ ++ (au_ws au0 bd0 pr0 tu0 0 ++ (tt_ws tu0 uka uaa uba usa gu cJ tZ ++ (mo_ws m0 e0 0 0 0 0 0 0 0 0 0 0 a0 a1 a2 a3 a4 a5 a6 a7 a8 a9 mb0 mb1 oc mb2 mb3 mb4 mb5 ++ (iw_ws a7 cI 256 bf ++ (iw_ws a8 cI 64 sc ++ (iw_ws a9 cI 8 st ++ (iw_ws mb0 cI 8 kS ++ (iw_ws mb1 cI 64 kR ++ (jw_ws a2 cJ 4 tf ++ (jw_ws a0 cJ 1232 nf ++ (jw_ws a1 cJ 616 cf ++ (iw_ws a4 cI 4 kf ++ (jw_ws mb2 cJ 4 ky ++ (jw_ws a3 cJ 16 lf ++ (iw_ws a5 cI 4 sf ++ (iw_ws a6 cI 64 vf ++ (jw_ws mb3 cJ 128 md ++ (jw_ws mb4 cJ 4 sh ++ iw_ws mb5 cI 64 ct)))))))))))))))))))))))))) (cx := (jw_ws out cJ 1 of ++ bb_ws b0 bd0 pr0 t0 au0 da .null)) (wr := (rw_ws da cJ (r8 d0 d1 d2 d3 d4 d5 d6 d7) ++ (bd_ws bd0 h0 ro lo 0 cR (rrf rb) (rrf lb) ++ (pr_ws pr0 h0 cm cJ ccf ++ (ha_ws h0 aw ax ay cJ cI w csc cst cL ++ (tt_ws t0 ka aa ba sa .null cJ tZ ++ (au_ws au0 bd0 pr0 tu0 0 ++ (tt_ws tu0 uka uaa uba usa gu cJ tZ ++ (mo_ws m0 e0 0 0 0 0 0 0 0 0 0 0 a0 a1 a2 a3 a4 a5 a6 a7 a8 a9 mb0 mb1 oc mb2 mb3 mb4 mb5 ++ (iw_ws a7 cI 256 bf ++ (iw_ws a8 cI 64 sc ++ (iw_ws a9 cI 8 st ++ (iw_ws mb0 cI 8 kS ++ (iw_ws mb1 cI 64 kR ++ (jw_ws a2 cJ 4 tf ++ (jw_ws a0 cJ 1232 nf ++ (jw_ws a1 cJ 616 cf ++ (iw_ws a4 cI 4 kf ++ (jw_ws mb2 cJ 4 ky ++ (jw_ws a3 cJ 16 lf ++ (iw_ws a5 cI 4 sf ++ (iw_ws a6 cI 64 vf ++ (jw_ws mb3 cJ 128 md ++ (jw_ws mb4 cJ 4 sh ++ iw_ws mb5 cI 64 ct)))))))))))))))))))))))) (w1 := (jw_ws out cJ 1 of ++ bb_ws b0 bd0 pr0 t0 au0 da .null)) (pl := bpool rb lb cJ R Lk) hP hD [0, 1] [2, 3, 4, 5, 6, 7, 8, 9, 10, 11, 12, 13, 14, 15, 16, 17, 18, 19, 20, 21, 22, 23, 24, 25, 26, 27, 28, 29, 30, 31, 32, 33, 34, 35, 36, 37, 38, 39] rfl rfl (by decide) (by decide) hk1 hFc hP1 hD1
  have hP := hP.part (cx := (jw_ws out cJ 1 of ++ (bb_ws b0 bd0 pr0 t0 au0 da .null ++ (rw_ws da cJ (r8 d0 d1 d2 d3 d4 d5 d6 d7) ++ (bd_ws bd0 h0 ro lo 0 cR (rrf rb) (rrf lb) ++ (pr_ws pr0 h0 cm cJ ccf ++ (ha_ws h0 aw ax ay cJ cI w csc cst cL ++ (tt_ws t0 ka aa ba sa .null cJ tZ ++ (au_ws au0 bd0 pr0 tu0 0 ++ (tt_ws tu0 uka uaa uba usa gu cJ tZ ++ (mo_ws m0 e0 0 0 0 0 0 0 0 0 0 0 a0 a1 a2 a3 a4 a5 a6 a7 a8 a9 mb0 mb1 oc mb2 mb3 mb4 mb5 ++ (iw_ws a7 cI 256 bf ++ (iw_ws a8 cI 64 sc ++ (iw_ws a9 cI 8 st ++ (iw_ws mb0 cI 8 kS ++ (iw_ws mb1 cI 64 kR ++ (jw_ws a2 cJ 4 tf ++ (jw_ws a0 cJ 1232 nf ++ (jw_ws a1 cJ 616 cf ++ (iw_ws a4 cI 4 kf ++ (jw_ws mb2 cJ 4 ky ++ (jw_ws a3 cJ 16 lf ++ (iw_ws a5 cI 4 sf ++ (iw_ws a6 cI 64 vf ++ (jw_ws mb3 cJ 128 md ++ (jw_ws mb4 cJ 4 sh ++ iw_ws mb5 cI 64 ct)))))))))))))))))))))))))) [38, 39, 0, 1, 2, 3, 4, 5, 6, 7, 8, 9, 10, 11, 12, 13, 14, 15, 16, 17, 18, 19, 20, 21, 22, 23, 24, 25, 26, 27, 28, 29, 30, 31, 32, 33, 34, 35, 36, 37] rfl
  have hD := hD.part (cx := (jw_ws out cJ 1 of ++ (bb_ws b0 bd0 pr0 t0 au0 da .null ++ (rw_ws da cJ (r8 d0 d1 d2 d3 d4 d5 d6 d7) ++ (bd_ws bd0 h0 ro lo 0 cR (rrf rb) (rrf lb) ++ (pr_ws pr0 h0 cm cJ ccf ++ (ha_ws h0 aw ax ay cJ cI w csc cst cL ++ (tt_ws t0 ka aa ba sa .null cJ tZ ++ (au_ws au0 bd0 pr0 tu0 0 ++ (tt_ws tu0 uka uaa uba usa gu cJ tZ ++ (mo_ws m0 e0 0 0 0 0 0 0 0 0 0 0 a0 a1 a2 a3 a4 a5 a6 a7 a8 a9 mb0 mb1 oc mb2 mb3 mb4 mb5 ++ (iw_ws a7 cI 256 bf ++ (iw_ws a8 cI 64 sc ++ (iw_ws a9 cI 8 st ++ (iw_ws mb0 cI 8 kS ++ (iw_ws mb1 cI 64 kR ++ (jw_ws a2 cJ 4 tf ++ (jw_ws a0 cJ 1232 nf ++ (jw_ws a1 cJ 616 cf ++ (iw_ws a4 cI 4 kf ++ (jw_ws mb2 cJ 4 ky ++ (jw_ws a3 cJ 16 lf ++ (iw_ws a5 cI 4 sf ++ (iw_ws a6 cI 64 vf ++ (jw_ws mb3 cJ 128 md ++ (jw_ws mb4 cJ 4 sh ++ iw_ws mb5 cI 64 ct)))))))))))))))))))))))))) [38, 39, 0, 1, 2, 3, 4, 5, 6, 7, 8, 9, 10, 11, 12, 13, 14, 15, 16, 17, 18, 19, 20, 21, 22, 23, 24, 25, 26, 27, 28, 29, 30, 31, 32, 33, 34, 35, 36, 37] (by decide) rfl
  generalize H1 = H at hP hS ⊢
  clear hPc hDc hFc hP1 hD1 hK1 ht hk1 hz1
  have hr9 : r_1 = 1 := hw
  subst hr9
  refine lv_istore (lv' := [(5, .int 1), (4, .int (nI i)), (3, .ref out), (2, .ref m0), (1, .ref b0), (0, .ref b)]) hx hb d_law_1488 hl (by decide) rfl (fun ls hl => ?_)
  refine lv_aload_n hx hb d_law_1490 rfl (lv_at hl 3 rfl) ?_
  refine lv_aload_n hx hb d_law_1491 rfl (lv_at hl 5 rfl) ?_
  refine lv_iload hx hb d_law_1492 (lv_at hl 1 rfl) ?_
  refine lv_iconst (v := 1) hx hb d_law_1494 (by decide) ?_
  refine lv_iadd hx hb d_law_1495 ?_
  rw [show ((nI i) + 1 : Int32) = nI (i + 1) from nI_add _ 1]
  refine va_sld hx hb hX hbl hbA hS (vp_in_nI (by omega) (by omega)) d_law_1496 ?_
  rw [show (xs (nI (i + 1)).toNatClampNeg : Int32) = xs (i + 1) from by rw [nI_clamp (by omega)]]
  rw [show (xs (i + 1) : Int32) = x1 from hx1.symm]
  refine lv_aload_n hx hb d_law_1497 rfl (lv_at hl 5 rfl) ?_
  refine lv_iload hx hb d_law_1498 (lv_at hl 1 rfl) ?_
  refine lv_iconst (v := 2) hx hb d_law_1500 (by decide) ?_
  refine lv_iadd hx hb d_law_1501 ?_
  rw [show ((nI i) + 2 : Int32) = nI (i + 2) from nI_add _ 2]
  refine va_sld hx hb hX hbl hbA hS (vp_in_nI (by omega) (by omega)) d_law_1502 ?_
  rw [show (xs (nI (i + 2)).toNatClampNeg : Int32) = xs (i + 2) from by rw [nI_clamp (by omega)]]
  refine lv_i2l (v := (xs (i + 2) : Int32).toInt64) hx hb d_law_1503 rfl ?_
  refine lv_bipush (v := 32) hx hb d_law_1504 (by decide) ?_
  refine lv_lshl (v := ((xs (i + 2) : Int32).toInt64 : Int64) <<< ((32 : Int32).toInt64 &&& 63)) hx hb d_law_1506 rfl ?_
  refine lv_aload_n hx hb d_law_1507 rfl (lv_at hl 5 rfl) ?_
  refine lv_iload hx hb d_law_1508 (lv_at hl 1 rfl) ?_
  refine lv_iconst (v := 3) hx hb d_law_1510 (by decide) ?_
  refine lv_iadd hx hb d_law_1511 ?_
  rw [show ((nI i) + 3 : Int32) = nI (i + 3) from nI_add _ 3]
  refine va_sld hx hb hX hbl hbA hS (vp_in_nI (by omega) (by omega)) d_law_1512 ?_
  rw [show (xs (nI (i + 3)).toNatClampNeg : Int32) = xs (i + 3) from by rw [nI_clamp (by omega)]]
  refine lv_i2l (v := (xs (i + 3) : Int32).toInt64) hx hb d_law_1513 rfl ?_
  refine lv_ldc2 (v := 4294967295) hx hb hown (hts _ (List.mem_cons_of_mem _ gk_1202)) d_law_1514 ?_
  refine lv_land hx hb d_law_1517 ?_
  refine lv_lor hx hb d_law_1518 ?_
  rw [show ((((xs (i + 2) : Int32).toInt64 : Int64) <<< ((32 : Int32).toInt64 &&& 63)) ||| (((xs (i + 3) : Int32).toInt64) &&& 4294967295) : Int64) = x2 from hx2.symm]
  refine lv_aload_n hx hb d_law_1519 rfl (lv_at hl 5 rfl) ?_
  refine lv_iload hx hb d_law_1520 (lv_at hl 1 rfl) ?_
  refine lv_iconst (v := 4) hx hb d_law_1522 (by decide) ?_
  refine lv_iadd hx hb d_law_1523 ?_
  rw [show ((nI i) + 4 : Int32) = nI (i + 4) from nI_add _ 4]
  refine va_sld hx hb hX hbl hbA hS (vp_in_nI (by omega) (by omega)) d_law_1524 ?_
  rw [show (xs (nI (i + 4)).toNatClampNeg : Int32) = xs (i + 4) from by rw [nI_clamp (by omega)]]
  refine lv_i2l (v := (xs (i + 4) : Int32).toInt64) hx hb d_law_1525 rfl ?_
  refine lv_bipush (v := 32) hx hb d_law_1526 (by decide) ?_
  refine lv_lshl (v := ((xs (i + 4) : Int32).toInt64 : Int64) <<< ((32 : Int32).toInt64 &&& 63)) hx hb d_law_1528 rfl ?_
  refine lv_aload_n hx hb d_law_1529 rfl (lv_at hl 5 rfl) ?_
  refine lv_iload hx hb d_law_1530 (lv_at hl 1 rfl) ?_
  refine lv_iconst (v := 5) hx hb d_law_1532 (by decide) ?_
  refine lv_iadd hx hb d_law_1533 ?_
  rw [show ((nI i) + 5 : Int32) = nI (i + 5) from nI_add _ 5]
  refine va_sld hx hb hX hbl hbA hS (vp_in_nI (by omega) (by omega)) d_law_1534 ?_
  rw [show (xs (nI (i + 5)).toNatClampNeg : Int32) = xs (i + 5) from by rw [nI_clamp (by omega)]]
  refine lv_i2l (v := (xs (i + 5) : Int32).toInt64) hx hb d_law_1535 rfl ?_
  refine lv_ldc2 (v := 4294967295) hx hb hown (hts _ (List.mem_cons_of_mem _ gk_1202)) d_law_1536 ?_
  refine lv_land hx hb d_law_1539 ?_
  refine lv_lor hx hb d_law_1540 ?_
  rw [show ((((xs (i + 4) : Int32).toInt64 : Int64) <<< ((32 : Int32).toInt64 &&& 63)) ||| (((xs (i + 5) : Int32).toInt64) &&& 4294967295) : Int64) = x3 from hx3.symm]
  have hPc := hP.sub (ws' := (mo_ws m0 e0 0 0 0 0 0 0 0 0 0 0 a0 a1 a2 a3 a4 a5 a6 a7 a8 a9 mb0 mb1 oc mb2 mb3 mb4 mb5)) [23] rfl
  have hDc := hD.sub (ws' := (mo_ws m0 e0 0 0 0 0 0 0 0 0 0 0 a0 a1 a2 a3 a4 a5 a6 a7 a8 a9 mb0 mb1 oc mb2 mb3 mb4 mb5)) [23] (by decide) rfl
  have hKc := hK.sub (tys' := [(cJ, .long), (cI, .int)]) [0, 1] rfl
  have hFc := va_free (wc := (mo_ws m0 e0 0 0 0 0 0 0 0 0 0 0 a0 a1 a2 a3 a4 a5 a6 a7 a8 a9 mb0 mb1 oc mb2 mb3 mb4 mb5)) hD hS hA [23] rfl
  refine va_calli (va_runV (As := [.int x1, .long x2, .long x3]) (rest := []) ⟨hx, hb, hml, hown, hts⟩ (c_Bm_makeShare_n l dC dI cJ cI H.size m0 e0 0 0 0 0 0 0 0 0 0 0 a0 a1 a2 a3 a4 a5 a6 a7 a8 a9 mb0 mb1 oc mb2 mb3 mb4 mb5 x1 x2 x3 rfl) (cwV 3 hts (gw_V gk_1166 gk_1167 gk_1168 gk_7 gk_1169) rfl rfl rfl (by decide +kernel) ⟨(Nat.le_of_ble_eq_true rfl), (Nat.le_of_ble_eq_true rfl)⟩) ⟨fun a U g mk q => by obtain ⟨q0, q1, qP, qK, qD⟩ := q; exact ⟨q0, q1, qP, va_K.moved (u := U) (U := U.calling g mk a) (Vm.Alike.refl U.vm) qK, qD⟩, va_recv hK hP (ci := 8) (q0 := 23) rfl rfl, fun U hU hW => ⟨rfl, by rw [hU], by rw [hU]; exact hPc, va_K.moved hW.alike hKc, hDc.weaken (fun _ _ _ _ => trivial)⟩⟩ rfl rfl hl.1 rfl (lv_room (Nat.le_of_ble_eq_true rfl)) d_law_1541 ⟨show cells + 8 + 0 ≤ 601024 by omega, show slots + 48 + 0 ≤ 7293034 by omega⟩) hS (fun q _ h => hFc q h) hFc (fun r_2 v9 t9 H1 locs ht hvm hw hB hz1 hk1 hS => ?_)
  obtain ⟨hP1, hK1, hD1⟩ := hB
  rw [ht] at hP1
  obtain ⟨hP, hD⟩ := va_joinQ (X := (jw_ws out cJ 1 of ++ (bb_ws b0 bd0 pr0 t0 au0 da .null ++ (rw_ws da cJ (r8 d0 d1 d2 d3 d4 d5 d6 d7) ++ (bd_ws bd0 h0 ro lo 0 cR (rrf rb) (rrf lb) ++ (pr_ws pr0 h0 cm cJ ccf ++ (ha_ws h0 aw ax ay cJ cI w csc cst cL ++ (tt_ws t0 ka aa ba sa .null cJ tZ ++ (au_ws au0 bd0 pr0 tu0 0 ++ (tt_ws tu0 uka uaa uba usa gu cJ tZ ++ (mo_ws m0 e0 0 0 0 0 0 0 0 0 0 0 a0 a1 a2 a3 a4 a5 a6 a7 a8 a9 mb0 mb1 oc mb2 mb3 mb4 mb5 ++ (iw_ws a7 cI 256 bf ++ (iw_ws a8 cI 64 sc ++ (iw_ws a9 cI 8 st ++ (iw_ws mb0 cI 8 kS ++ (iw_ws mb1 cI 64 kR ++ (jw_ws a2 cJ 4 tf ++ (jw_ws a0 cJ 1232 nf ++ (jw_ws a1 cJ 616 cf ++ (iw_ws a4 cI 4 kf ++ (jw_ws mb2 cJ 4 ky ++ (jw_ws a3 cJ 16 lf ++ (iw_ws a5 cI 4 sf ++ (iw_ws a6 cI 64 vf ++ (jw_ws mb3 cJ 128 md ++ (jw_ws mb4 cJ 4 sh ++ iw_ws mb5 cI 64 ct)))))))))))))))))))))))))) (cx := (mo_ws m0 e0 0 0 0 0 0 0 0 0 0 0 a0 a1 a2 a3 a4 a5 a6 a7 a8 a9 mb0 mb1 oc mb2 mb3 mb4 mb5)) (wr := (jw_ws out cJ 1 of ++ (bb_ws b0 bd0 pr0 t0 au0 da .null ++ (rw_ws da cJ (r8 d0 d1 d2 d3 d4 d5 d6 d7) ++ (bd_ws bd0 h0 ro lo 0 cR (rrf rb) (rrf lb) ++ (pr_ws pr0 h0 cm cJ ccf ++ (ha_ws h0 aw ax ay cJ cI w csc cst cL ++ (tt_ws t0 ka aa ba sa .null cJ tZ ++ (au_ws au0 bd0 pr0 tu0 0 ++ (tt_ws tu0 uka uaa uba usa gu cJ tZ ++ (iw_ws a7 cI 256 bf ++ (iw_ws a8 cI 64 sc ++ (iw_ws a9 cI 8 st ++ (iw_ws mb0 cI 8 kS ++ (iw_ws mb1 cI 64 kR ++ (jw_ws a2 cJ 4 tf ++ (jw_ws a0 cJ 1232 nf ++ (jw_ws a1 cJ 616 cf ++ (iw_ws a4 cI 4 kf ++ (jw_ws mb2 cJ 4 ky ++ (jw_ws a3 cJ 16 lf ++ (iw_ws a5 cI 4 sf ++ (iw_ws a6 cI 64 vf ++ (jw_ws mb3 cJ 128 md ++ (jw_ws mb4 cJ 4 sh ++ iw_ws mb5 cI 64 ct))))))))))))))))))))))))) (w1 := (mo_ws m0 1 0 0 0 0 0 0 0 0 0 0 a0 a1 a2 a3 a4 a5 a6 a7 a8 a9 mb0 mb1 oc mb2 mb3 mb4 mb5)) (pl := bpool rb lb cJ R Lk) hP hD [23] [0, 1, 2, 3, 4, 5, 6, 7, 8, 9, 10, 11, 12, 13, 14, 15, 16, 17, 18, 19, 20, 21, 22, 24, 25, 26, 27, 28, 29, 30, 31, 32, 33, 34, 35, 36, 37, 38, 39] rfl rfl (by decide) (by decide) hk1 hFc hP1 hD1
  have hP := hP.part (cx := (jw_ws out cJ 1 of ++ (bb_ws b0 bd0 pr0 t0 au0 da .null ++ (rw_ws da cJ (r8 d0 d1 d2 d3 d4 d5 d6 d7) ++ (bd_ws bd0 h0 ro lo 0 cR (rrf rb) (rrf lb) ++ (pr_ws pr0 h0 cm cJ ccf ++ (ha_ws h0 aw ax ay cJ cI w csc cst cL ++ (tt_ws t0 ka aa ba sa .null cJ tZ ++ (au_ws au0 bd0 pr0 tu0 0 ++ (tt_ws tu0 uka uaa uba usa gu cJ tZ ++ (mo_ws m0 1 0 0 0 0 0 0 0 0 0 0 a0 a1 a2 a3 a4 a5 a6 a7 a8 a9 mb0 mb1 oc mb2 mb3 mb4 mb5 ++ (iw_ws a7 cI 256 bf ++ (iw_ws a8 cI 64 sc ++ (iw_ws a9 cI 8 st ++ (iw_ws mb0 cI 8 kS ++ (iw_ws mb1 cI 64 kR ++ (jw_ws a2 cJ 4 tf ++ (jw_ws a0 cJ 1232 nf ++ (jw_ws a1 cJ 616 cf ++ (iw_ws a4 cI 4 kf ++ (jw_ws mb2 cJ 4 ky ++ (jw_ws a3 cJ 16 lf ++ (iw_ws a5 cI 4 sf ++ (iw_ws a6 cI 64 vf ++ (jw_ws mb3 cJ 128 md ++ (jw_ws mb4 cJ 4 sh ++ iw_ws mb5 cI 64 ct)))))))))))))))))))))))))) [0, 1, 2, 3, 4, 5, 6, 7, 8, 9, 10, 11, 12, 13, 14, 15, 16, 17, 18, 19, 20, 21, 22, 39, 23, 24, 25, 26, 27, 28, 29, 30, 31, 32, 33, 34, 35, 36, 37, 38] rfl
  have hD := hD.part (cx := (jw_ws out cJ 1 of ++ (bb_ws b0 bd0 pr0 t0 au0 da .null ++ (rw_ws da cJ (r8 d0 d1 d2 d3 d4 d5 d6 d7) ++ (bd_ws bd0 h0 ro lo 0 cR (rrf rb) (rrf lb) ++ (pr_ws pr0 h0 cm cJ ccf ++ (ha_ws h0 aw ax ay cJ cI w csc cst cL ++ (tt_ws t0 ka aa ba sa .null cJ tZ ++ (au_ws au0 bd0 pr0 tu0 0 ++ (tt_ws tu0 uka uaa uba usa gu cJ tZ ++ (mo_ws m0 1 0 0 0 0 0 0 0 0 0 0 a0 a1 a2 a3 a4 a5 a6 a7 a8 a9 mb0 mb1 oc mb2 mb3 mb4 mb5 ++ (iw_ws a7 cI 256 bf ++ (iw_ws a8 cI 64 sc ++ (iw_ws a9 cI 8 st ++ (iw_ws mb0 cI 8 kS ++ (iw_ws mb1 cI 64 kR ++ (jw_ws a2 cJ 4 tf ++ (jw_ws a0 cJ 1232 nf ++ (jw_ws a1 cJ 616 cf ++ (iw_ws a4 cI 4 kf ++ (jw_ws mb2 cJ 4 ky ++ (jw_ws a3 cJ 16 lf ++ (iw_ws a5 cI 4 sf ++ (iw_ws a6 cI 64 vf ++ (jw_ws mb3 cJ 128 md ++ (jw_ws mb4 cJ 4 sh ++ iw_ws mb5 cI 64 ct)))))))))))))))))))))))))) [0, 1, 2, 3, 4, 5, 6, 7, 8, 9, 10, 11, 12, 13, 14, 15, 16, 17, 18, 19, 20, 21, 22, 39, 23, 24, 25, 26, 27, 28, 29, 30, 31, 32, 33, 34, 35, 36, 37, 38] (by decide) rfl
  generalize H1 = H at hP hS ⊢
  clear hPc hDc hFc hP1 hD1 hK1 ht hk1 hz1
  refine lv_istore (lv' := [(6, .int r_2), (5, .int 1), (4, .int (nI i)), (3, .ref out), (2, .ref m0), (1, .ref b0), (0, .ref b)]) hx hb d_law_1544 hl (by decide) rfl (fun ls hl => ?_)
  refine lv_aload_n hx hb d_law_1546 rfl (lv_at hl 4 rfl) ?_
  have hPc := hP.sub (ws' := (mo_ws m0 1 0 0 0 0 0 0 0 0 0 0 a0 a1 a2 a3 a4 a5 a6 a7 a8 a9 mb0 mb1 oc mb2 mb3 mb4 mb5)) [23] rfl
  have hKc := hK.sub (tys' := [(cJ, .long), (cI, .int)]) [0, 1] rfl
  refine va_calli (va_runV (As := []) (rest := []) ⟨hx, hb, hml, hown, hts⟩ (c_Bm_thrown l H dC dI cJ cI m0 1 0 0 0 0 0 0 0 0 0 0 a0 a1 a2 a3 a4 a5 a6 a7 a8 a9 mb0 mb1 oc mb2 mb3 mb4 mb5 hPc) (cwV 0 hts (gw_V gk_1004 gk_1005 gk_1006 gk_7 gk_1007) rfl rfl rfl (by decide +kernel) ⟨(Nat.le_of_ble_eq_true rfl), (Nat.le_of_ble_eq_true rfl)⟩) ⟨fun a U g mk q => ⟨q.1, q.2.1, va_K.moved (u := U) (U := U.calling g mk a) (Vm.Alike.refl U.vm) q.2.2⟩, va_recv hK hP (ci := 8) (q0 := 23) rfl rfl, fun U hU hW => ⟨rfl, hU, va_K.moved hW.alike hKc⟩⟩ rfl rfl hl.1 rfl (lv_room (Nat.le_of_ble_eq_true rfl)) d_law_1547 ⟨show cells + 8 + 0 + 0 ≤ 601024 by omega, show slots + 48 + 0 + 0 ≤ 7293034 by omega⟩) hS (fun q _ h => h.elim) (fun q h => h.elim) (fun r_3 w9 t9 H1 locs ht hvm hw9 hB hz1 hk1 hS => ?_)
  obtain rfl : H = H1 := hB.symm.trans ht
  have hw9 : r_3 = 1 := hw9
  subst hw9
  clear hPc hz1 hk1 hB
  refine lv_iload hx hb d_law_1550 (lv_at hl 1 rfl) ?_
  refine lv_icmp_eq (tgt := 1557) hx hb d_law_1552 (by decide) (fun c_4 => ?_) (fun c_4 => ?_)
  · -- taken
    refine lv_iload hx hb d_law_1557 (lv_at hl 1 rfl) ?_
    refine lv_if_ne (tgt := 1574) hx hb d_law_1559 (by decide) (fun c_5 => ?_) (fun c_5 => ?_)
    · -- taken
      refine lv_goto (tgt := 1965) hx hb d_law_1574 (by decide) ?_
      refine W.widen (k := cells + 20) (n := slots + 200) (by omega) (by omega) ?_
      have hI9 : LI dC dI cJ cI cR A out b0 m0 H := LF.mk hP hD
      exact cont _ _ _ hS hI9 (lv_sub hl [2, 3, 4, 5, 6] rfl)
    · -- not taken
      exact absurd c_5 (by decide)
  · -- not taken
    exact absurd c_4 (by decide)
set_option maxHeartbeats 16000000 in
set_option maxRecDepth 100000 in
theorem bk_result_f {p : Program} {l : Launch} {e : Env} {s : State} {m : MethodId} {below : List Frame} {meth : Method} {c : Code} {b L : Nat} {xs : Nat → Int32} {dC : Nat → ClassId} {dI : Nat → Nat → Nat} {cJ cI cR : ClassId} {A : Nat → Prop} {out b0 m0 : Nat} {rA sA wA : Nat} (C : LC p l s m meth c b L xs dC dI cJ cI cR A rA sA wA) {i cells slots : Nat} (hi : i + 14 ≤ L) (hcs : cells + 20 ≤ 601024 ∧ slots + 200 ≤ 7293034) (cont : LK p l e s m below meth c b dC dI cJ cI cR A out b0 m0 i (cells + 20) (slots + 200) 1965) {H : Heap} {locs : List Loc} {ls : Array Slot} (hS : va_S A s.heap H locs) (hI : LF dC dI cJ cI cR A out b0 m0 H) (hl : lv_has ls 8 [(4, .int (nI i)), (3, .ref out), (2, .ref m0), (1, .ref b0), (0, .ref b)]) : W p l e room_1 s m #[Value.ref b] below meth c H locs cells slots (lw_Z below #[Value.ref b] s) (F0 m 1577 ls []) := by
  obtain ⟨hnt, ⟨hx, hb, hr, hml, hown, hts0, hX, hbl, hlocks, hgv⟩, hK, hA, hbA, hZha, hZx, hZn, hZw, hL⟩ := C
  have hown : s.vm.findClass "BallotBoardLaw" = some m.cls := hown
  have hts := lw_hts hts0
  refine hI _ (fun bd0 pr0 t0 au0 da h0 ro lo rb lb cm aw ax ay ka aa ba sa tu0 uka uaa uba usa a0 a1 a2 a3 a4 a5 a6 a7 a8 a9 mb0 mb1 oc mb2 mb3 mb4 mb5 cL of w tf nf cf ky lf md sh ccf csc cst bf sc st kf sf vf ct gu d0 d1 d2 d3 d4 d5 d6 d7 e0 R Lk hP hD => ?_)
  refine lv_aload_n hx hb d_law_1577 rfl (lv_at hl 3 rfl) ?_
  refine lv_aload_n hx hb d_law_1578 rfl (lv_at hl 1 rfl) ?_
  have hPc := hP.sub (ws' := (jw_ws out cJ 1 of ++ bb_ws b0 bd0 pr0 t0 au0 da .null)) [0, 1] rfl
  have hDc := hD.sub (ws' := (jw_ws out cJ 1 of ++ bb_ws b0 bd0 pr0 t0 au0 da .null)) [0, 1] (by decide) rfl
  have hKc := hK.sub (tys' := [(cJ, .long), (cI, .int), (cR, .array .long)]) [0, 1, 2] rfl
  have hFc := va_free (wc := (jw_ws out cJ 1 of ++ bb_ws b0 bd0 pr0 t0 au0 da .null)) hD hS hA [0, 1] rfl
  have hZc0 : xz (va_A (jw_ws out cJ 1 of ++ bb_ws b0 bd0 pr0 t0 au0 da .null) H.size) s H := (hZx.kept hS.2.1).narrow hFc
  have hZc1 : nc_Z s := hZn
  refine vx_calli (vx_runSX (hh := h_Lw_result) (As := [.ref b0, .ref out]) (rest := []) ⟨hx, hb, hml, hown, hts⟩ (c_Lw_result_n l hnt dC dI cJ cI cR H.size b0 bd0 pr0 t0 au0 da out of) (vx_cwSW 2 hts (gw_Sv gk_734 gk_735 gk_0 gk_736) rfl rfl rfl (by decide +kernel) ⟨(Nat.le_of_ble_eq_true rfl), (Nat.le_of_ble_eq_true rfl)⟩) ⟨fun a U g mk q => by obtain ⟨q0, q1, qP, qK, qD, qZ0, qZ1⟩ := q; exact ⟨q0, q1, qP, va_K.moved (u := U) (U := U.calling g mk a) (Vm.Alike.refl U.vm) qK, qD, xz.same (u := U) (U := U.calling g mk a) rfl qZ0, nc_Z.moved (u := U) (U := U.calling g mk a) (Vm.Alike.refl U.vm) qZ1⟩, fun U hU hW => ⟨rfl, by rw [hU], by rw [hU]; exact hPc, va_K.moved hW.alike hKc, hDc.weaken (fun _ _ _ _ => trivial), by rw [hU]; exact xz.warm hW hZc0, nc_Z.moved hW.alike hZc1⟩⟩ rfl rfl hl.1 rfl (lv_room (Nat.le_of_ble_eq_true rfl)) d_law_1579 ⟨show cells + 8 ≤ 601024 by omega, show slots + 48 ≤ 7293034 by omega⟩) hS (fun q _ h => hFc q h) hFc (fun q _ h => hFc q h) (fun E9 ce9 q9 u8 t9 H1 locs ht hvm hpx hbx hz1 hk1 hS hce hcv hcl => hpx.elim) (fun r_1 u9 t9 H1 locs ht hvm hw hB hz1 hk1 hS => ?_)
  obtain ⟨hP1, hK1, hD1⟩ := hB
  rw [ht] at hP1
  obtain ⟨hP, hD⟩ := va_joinQ (X := (jw_ws out cJ 1 of ++ (bb_ws b0 bd0 pr0 t0 au0 da .null ++ (rw_ws da cJ (r8 d0 d1 d2 d3 d4 d5 d6 d7) ++ (bd_ws bd0 h0 ro lo 0 cR (rrf rb) (rrf lb) ++ (pr_ws pr0 h0 cm cJ ccf ++ (ha_ws h0 aw ax ay cJ cI w csc cst cL ++ (tt_ws t0 ka aa ba sa .null cJ tZ ++ (au_ws au0 bd0 pr0 tu0 0 ++ (tt_ws tu0 uka uaa uba usa gu cJ tZ ++ (mo_ws m0 e0 0 0 0 0 0 0 0 0 0 0 a0 a1 a2 a3 a4 a5 a6 a7 a8 a9 mb0 mb1 oc mb2 mb3 mb4 mb5 ++ (iw_ws a7 cI 256 bf ++ (iw_ws a8 cI 64 sc ++ (iw_ws a9 cI 8 st ++ (iw_ws mb0 cI 8 kS ++ (iw_ws mb1 cI 64 kR ++ (jw_ws a2 cJ 4 tf ++ (jw_ws a0 cJ 1232 nf ++ (jw_ws a1 cJ 616 cf ++ (iw_ws a4 cI 4 kf ++ (jw_ws mb2 cJ 4 ky ++ (jw_ws a3 cJ 16 lf ++ (iw_ws a5 cI 4 sf ++ (iw_ws a6 cI 64 vf ++ (jw_ws mb3 cJ 128 md ++ (jw_ws mb4 cJ 4 sh ++ iw_ws mb5 cI 64 ct)))))))))))))))))))))))))) (cx := (jw_ws out cJ 1 of ++ bb_ws b0 bd0 pr0 t0 au0 da .null)) (wr := (rw_ws da cJ (r8 d0 d1 d2 d3 d4 d5 d6 d7) ++ (bd_ws bd0 h0 ro lo 0 cR (rrf rb) (rrf lb) ++ (pr_ws pr0 h0 cm cJ ccf ++ (ha_ws h0 aw ax ay cJ cI w csc cst cL ++ (tt_ws t0 ka aa ba sa .null cJ tZ ++ (au_ws au0 bd0 pr0 tu0 0 ++ (tt_ws tu0 uka uaa uba usa gu cJ tZ ++ (mo_ws m0 e0 0 0 0 0 0 0 0 0 0 0 a0 a1 a2 a3 a4 a5 a6 a7 a8 a9 mb0 mb1 oc mb2 mb3 mb4 mb5 ++ (iw_ws a7 cI 256 bf ++ (iw_ws a8 cI 64 sc ++ (iw_ws a9 cI 8 st ++ (iw_ws mb0 cI 8 kS ++ (iw_ws mb1 cI 64 kR ++ (jw_ws a2 cJ 4 tf ++ (jw_ws a0 cJ 1232 nf ++ (jw_ws a1 cJ 616 cf ++ (iw_ws a4 cI 4 kf ++ (jw_ws mb2 cJ 4 ky ++ (jw_ws a3 cJ 16 lf ++ (iw_ws a5 cI 4 sf ++ (iw_ws a6 cI 64 vf ++ (jw_ws mb3 cJ 128 md ++ (jw_ws mb4 cJ 4 sh ++ iw_ws mb5 cI 64 ct)))))))))))))))))))))))) (w1 := (jw_ws out cJ 1 of ++ bb_ws b0 bd0 pr0 t0 au0 da .null)) (pl := bpool rb lb cJ R Lk) hP hD [0, 1] [2, 3, 4, 5, 6, 7, 8, 9, 10, 11, 12, 13, 14, 15, 16, 17, 18, 19, 20, 21, 22, 23, 24, 25, 26, 27, 28, 29, 30, 31, 32, 33, 34, 35, 36, 37, 38, 39] rfl rfl (by decide) (by decide) hk1 hFc hP1 hD1
  have hP := hP.part (cx := (jw_ws out cJ 1 of ++ (bb_ws b0 bd0 pr0 t0 au0 da .null ++ (rw_ws da cJ (r8 d0 d1 d2 d3 d4 d5 d6 d7) ++ (bd_ws bd0 h0 ro lo 0 cR (rrf rb) (rrf lb) ++ (pr_ws pr0 h0 cm cJ ccf ++ (ha_ws h0 aw ax ay cJ cI w csc cst cL ++ (tt_ws t0 ka aa ba sa .null cJ tZ ++ (au_ws au0 bd0 pr0 tu0 0 ++ (tt_ws tu0 uka uaa uba usa gu cJ tZ ++ (mo_ws m0 e0 0 0 0 0 0 0 0 0 0 0 a0 a1 a2 a3 a4 a5 a6 a7 a8 a9 mb0 mb1 oc mb2 mb3 mb4 mb5 ++ (iw_ws a7 cI 256 bf ++ (iw_ws a8 cI 64 sc ++ (iw_ws a9 cI 8 st ++ (iw_ws mb0 cI 8 kS ++ (iw_ws mb1 cI 64 kR ++ (jw_ws a2 cJ 4 tf ++ (jw_ws a0 cJ 1232 nf ++ (jw_ws a1 cJ 616 cf ++ (iw_ws a4 cI 4 kf ++ (jw_ws mb2 cJ 4 ky ++ (jw_ws a3 cJ 16 lf ++ (iw_ws a5 cI 4 sf ++ (iw_ws a6 cI 64 vf ++ (jw_ws mb3 cJ 128 md ++ (jw_ws mb4 cJ 4 sh ++ iw_ws mb5 cI 64 ct)))))))))))))))))))))))))) [38, 39, 0, 1, 2, 3, 4, 5, 6, 7, 8, 9, 10, 11, 12, 13, 14, 15, 16, 17, 18, 19, 20, 21, 22, 23, 24, 25, 26, 27, 28, 29, 30, 31, 32, 33, 34, 35, 36, 37] rfl
  have hD := hD.part (cx := (jw_ws out cJ 1 of ++ (bb_ws b0 bd0 pr0 t0 au0 da .null ++ (rw_ws da cJ (r8 d0 d1 d2 d3 d4 d5 d6 d7) ++ (bd_ws bd0 h0 ro lo 0 cR (rrf rb) (rrf lb) ++ (pr_ws pr0 h0 cm cJ ccf ++ (ha_ws h0 aw ax ay cJ cI w csc cst cL ++ (tt_ws t0 ka aa ba sa .null cJ tZ ++ (au_ws au0 bd0 pr0 tu0 0 ++ (tt_ws tu0 uka uaa uba usa gu cJ tZ ++ (mo_ws m0 e0 0 0 0 0 0 0 0 0 0 0 a0 a1 a2 a3 a4 a5 a6 a7 a8 a9 mb0 mb1 oc mb2 mb3 mb4 mb5 ++ (iw_ws a7 cI 256 bf ++ (iw_ws a8 cI 64 sc ++ (iw_ws a9 cI 8 st ++ (iw_ws mb0 cI 8 kS ++ (iw_ws mb1 cI 64 kR ++ (jw_ws a2 cJ 4 tf ++ (jw_ws a0 cJ 1232 nf ++ (jw_ws a1 cJ 616 cf ++ (iw_ws a4 cI 4 kf ++ (jw_ws mb2 cJ 4 ky ++ (jw_ws a3 cJ 16 lf ++ (iw_ws a5 cI 4 sf ++ (iw_ws a6 cI 64 vf ++ (jw_ws mb3 cJ 128 md ++ (jw_ws mb4 cJ 4 sh ++ iw_ws mb5 cI 64 ct)))))))))))))))))))))))))) [38, 39, 0, 1, 2, 3, 4, 5, 6, 7, 8, 9, 10, 11, 12, 13, 14, 15, 16, 17, 18, 19, 20, 21, 22, 23, 24, 25, 26, 27, 28, 29, 30, 31, 32, 33, 34, 35, 36, 37] (by decide) rfl
  generalize H1 = H at hP hS ⊢
  clear hPc hDc hFc hP1 hD1 hK1 ht hk1 hz1
  have hr9 : r_1 = 1 := hw
  subst hr9
  refine lv_istore (lv' := [(5, .int 1), (4, .int (nI i)), (3, .ref out), (2, .ref m0), (1, .ref b0), (0, .ref b)]) hx hb d_law_1582 hl (by decide) rfl (fun ls hl => ?_)
  refine lv_aload_n hx hb d_law_1584 rfl (lv_at hl 3 rfl) ?_
  have hPc := hP.sub (ws' := (mo_ws m0 e0 0 0 0 0 0 0 0 0 0 0 a0 a1 a2 a3 a4 a5 a6 a7 a8 a9 mb0 mb1 oc mb2 mb3 mb4 mb5)) [23] rfl
  have hDc := hD.sub (ws' := (mo_ws m0 e0 0 0 0 0 0 0 0 0 0 0 a0 a1 a2 a3 a4 a5 a6 a7 a8 a9 mb0 mb1 oc mb2 mb3 mb4 mb5)) [23] (by decide) rfl
  have hKc := hK.sub (tys' := [(cJ, .long), (cI, .int)]) [0, 1] rfl
  have hFc := va_free (wc := (mo_ws m0 e0 0 0 0 0 0 0 0 0 0 0 a0 a1 a2 a3 a4 a5 a6 a7 a8 a9 mb0 mb1 oc mb2 mb3 mb4 mb5)) hD hS hA [23] rfl
  refine va_calli (va_runV (As := []) (rest := []) ⟨hx, hb, hml, hown, hts⟩ (c_Bm_result_n l dC dI cJ cI H.size m0 e0 0 0 0 0 0 0 0 0 0 0 a0 a1 a2 a3 a4 a5 a6 a7 a8 a9 mb0 mb1 oc mb2 mb3 mb4 mb5 rfl rfl) (cwV 0 hts (gw_V gk_1170 gk_1171 gk_1172 gk_7 gk_1173) rfl rfl rfl (by decide +kernel) ⟨(Nat.le_of_ble_eq_true rfl), (Nat.le_of_ble_eq_true rfl)⟩) ⟨fun a U g mk q => by obtain ⟨q0, q1, qP, qK, qD⟩ := q; exact ⟨q0, q1, qP, va_K.moved (u := U) (U := U.calling g mk a) (Vm.Alike.refl U.vm) qK, qD⟩, va_recv hK hP (ci := 8) (q0 := 23) rfl rfl, fun U hU hW => ⟨rfl, by rw [hU], by rw [hU]; exact hPc, va_K.moved hW.alike hKc, hDc.weaken (fun _ _ _ _ => trivial)⟩⟩ rfl rfl hl.1 rfl (lv_room (Nat.le_of_ble_eq_true rfl)) d_law_1585 ⟨show cells + 8 + 0 ≤ 601024 by omega, show slots + 48 + 0 ≤ 7293034 by omega⟩) hS (fun q _ h => hFc q h) hFc (fun r_2 v9 t9 H1 locs ht hvm hw hB hz1 hk1 hS => ?_)
  obtain ⟨hP1, hK1, hD1⟩ := hB
  rw [ht] at hP1
  obtain ⟨hP, hD⟩ := va_joinQ (X := (jw_ws out cJ 1 of ++ (bb_ws b0 bd0 pr0 t0 au0 da .null ++ (rw_ws da cJ (r8 d0 d1 d2 d3 d4 d5 d6 d7) ++ (bd_ws bd0 h0 ro lo 0 cR (rrf rb) (rrf lb) ++ (pr_ws pr0 h0 cm cJ ccf ++ (ha_ws h0 aw ax ay cJ cI w csc cst cL ++ (tt_ws t0 ka aa ba sa .null cJ tZ ++ (au_ws au0 bd0 pr0 tu0 0 ++ (tt_ws tu0 uka uaa uba usa gu cJ tZ ++ (mo_ws m0 e0 0 0 0 0 0 0 0 0 0 0 a0 a1 a2 a3 a4 a5 a6 a7 a8 a9 mb0 mb1 oc mb2 mb3 mb4 mb5 ++ (iw_ws a7 cI 256 bf ++ (iw_ws a8 cI 64 sc ++ (iw_ws a9 cI 8 st ++ (iw_ws mb0 cI 8 kS ++ (iw_ws mb1 cI 64 kR ++ (jw_ws a2 cJ 4 tf ++ (jw_ws a0 cJ 1232 nf ++ (jw_ws a1 cJ 616 cf ++ (iw_ws a4 cI 4 kf ++ (jw_ws mb2 cJ 4 ky ++ (jw_ws a3 cJ 16 lf ++ (iw_ws a5 cI 4 sf ++ (iw_ws a6 cI 64 vf ++ (jw_ws mb3 cJ 128 md ++ (jw_ws mb4 cJ 4 sh ++ iw_ws mb5 cI 64 ct)))))))))))))))))))))))))) (cx := (mo_ws m0 e0 0 0 0 0 0 0 0 0 0 0 a0 a1 a2 a3 a4 a5 a6 a7 a8 a9 mb0 mb1 oc mb2 mb3 mb4 mb5)) (wr := (jw_ws out cJ 1 of ++ (bb_ws b0 bd0 pr0 t0 au0 da .null ++ (rw_ws da cJ (r8 d0 d1 d2 d3 d4 d5 d6 d7) ++ (bd_ws bd0 h0 ro lo 0 cR (rrf rb) (rrf lb) ++ (pr_ws pr0 h0 cm cJ ccf ++ (ha_ws h0 aw ax ay cJ cI w csc cst cL ++ (tt_ws t0 ka aa ba sa .null cJ tZ ++ (au_ws au0 bd0 pr0 tu0 0 ++ (tt_ws tu0 uka uaa uba usa gu cJ tZ ++ (iw_ws a7 cI 256 bf ++ (iw_ws a8 cI 64 sc ++ (iw_ws a9 cI 8 st ++ (iw_ws mb0 cI 8 kS ++ (iw_ws mb1 cI 64 kR ++ (jw_ws a2 cJ 4 tf ++ (jw_ws a0 cJ 1232 nf ++ (jw_ws a1 cJ 616 cf ++ (iw_ws a4 cI 4 kf ++ (jw_ws mb2 cJ 4 ky ++ (jw_ws a3 cJ 16 lf ++ (iw_ws a5 cI 4 sf ++ (iw_ws a6 cI 64 vf ++ (jw_ws mb3 cJ 128 md ++ (jw_ws mb4 cJ 4 sh ++ iw_ws mb5 cI 64 ct))))))))))))))))))))))))) (w1 := (mo_ws m0 1 0 0 0 0 0 0 0 0 0 0 a0 a1 a2 a3 a4 a5 a6 a7 a8 a9 mb0 mb1 oc mb2 mb3 mb4 mb5)) (pl := bpool rb lb cJ R Lk) hP hD [23] [0, 1, 2, 3, 4, 5, 6, 7, 8, 9, 10, 11, 12, 13, 14, 15, 16, 17, 18, 19, 20, 21, 22, 24, 25, 26, 27, 28, 29, 30, 31, 32, 33, 34, 35, 36, 37, 38, 39] rfl rfl (by decide) (by decide) hk1 hFc hP1 hD1
  have hP := hP.part (cx := (jw_ws out cJ 1 of ++ (bb_ws b0 bd0 pr0 t0 au0 da .null ++ (rw_ws da cJ (r8 d0 d1 d2 d3 d4 d5 d6 d7) ++ (bd_ws bd0 h0 ro lo 0 cR (rrf rb) (rrf lb) ++ (pr_ws pr0 h0 cm cJ ccf ++ (ha_ws h0 aw ax ay cJ cI w csc cst cL ++ (tt_ws t0 ka aa ba sa .null cJ tZ ++ (au_ws au0 bd0 pr0 tu0 0 ++ (tt_ws tu0 uka uaa uba usa gu cJ tZ ++ (mo_ws m0 1 0 0 0 0 0 0 0 0 0 0 a0 a1 a2 a3 a4 a5 a6 a7 a8 a9 mb0 mb1 oc mb2 mb3 mb4 mb5 ++ (iw_ws a7 cI 256 bf ++ (iw_ws a8 cI 64 sc ++ (iw_ws a9 cI 8 st ++ (iw_ws mb0 cI 8 kS ++ (iw_ws mb1 cI 64 kR ++ (jw_ws a2 cJ 4 tf ++ (jw_ws a0 cJ 1232 nf ++ (jw_ws a1 cJ 616 cf ++ (iw_ws a4 cI 4 kf ++ (jw_ws mb2 cJ 4 ky ++ (jw_ws a3 cJ 16 lf ++ (iw_ws a5 cI 4 sf ++ (iw_ws a6 cI 64 vf ++ (jw_ws mb3 cJ 128 md ++ (jw_ws mb4 cJ 4 sh ++ iw_ws mb5 cI 64 ct)))))))))))))))))))))))))) [0, 1, 2, 3, 4, 5, 6, 7, 8, 9, 10, 11, 12, 13, 14, 15, 16, 17, 18, 19, 20, 21, 22, 39, 23, 24, 25, 26, 27, 28, 29, 30, 31, 32, 33, 34, 35, 36, 37, 38] rfl
  have hD := hD.part (cx := (jw_ws out cJ 1 of ++ (bb_ws b0 bd0 pr0 t0 au0 da .null ++ (rw_ws da cJ (r8 d0 d1 d2 d3 d4 d5 d6 d7) ++ (bd_ws bd0 h0 ro lo 0 cR (rrf rb) (rrf lb) ++ (pr_ws pr0 h0 cm cJ ccf ++ (ha_ws h0 aw ax ay cJ cI w csc cst cL ++ (tt_ws t0 ka aa ba sa .null cJ tZ ++ (au_ws au0 bd0 pr0 tu0 0 ++ (tt_ws tu0 uka uaa uba usa gu cJ tZ ++ (mo_ws m0 1 0 0 0 0 0 0 0 0 0 0 a0 a1 a2 a3 a4 a5 a6 a7 a8 a9 mb0 mb1 oc mb2 mb3 mb4 mb5 ++ (iw_ws a7 cI 256 bf ++ (iw_ws a8 cI 64 sc ++ (iw_ws a9 cI 8 st ++ (iw_ws mb0 cI 8 kS ++ (iw_ws mb1 cI 64 kR ++ (jw_ws a2 cJ 4 tf ++ (jw_ws a0 cJ 1232 nf ++ (jw_ws a1 cJ 616 cf ++ (iw_ws a4 cI 4 kf ++ (jw_ws mb2 cJ 4 ky ++ (jw_ws a3 cJ 16 lf ++ (iw_ws a5 cI 4 sf ++ (iw_ws a6 cI 64 vf ++ (jw_ws mb3 cJ 128 md ++ (jw_ws mb4 cJ 4 sh ++ iw_ws mb5 cI 64 ct)))))))))))))))))))))))))) [0, 1, 2, 3, 4, 5, 6, 7, 8, 9, 10, 11, 12, 13, 14, 15, 16, 17, 18, 19, 20, 21, 22, 39, 23, 24, 25, 26, 27, 28, 29, 30, 31, 32, 33, 34, 35, 36, 37, 38] (by decide) rfl
  generalize H1 = H at hP hS ⊢
  clear hPc hDc hFc hP1 hD1 hK1 ht hk1 hz1
  refine lv_istore (lv' := [(6, .int r_2), (5, .int 1), (4, .int (nI i)), (3, .ref out), (2, .ref m0), (1, .ref b0), (0, .ref b)]) hx hb d_law_1588 hl (by decide) rfl (fun ls hl => ?_)
  refine lv_aload_n hx hb d_law_1590 rfl (lv_at hl 4 rfl) ?_
  have hPc := hP.sub (ws' := (mo_ws m0 1 0 0 0 0 0 0 0 0 0 0 a0 a1 a2 a3 a4 a5 a6 a7 a8 a9 mb0 mb1 oc mb2 mb3 mb4 mb5)) [23] rfl
  have hKc := hK.sub (tys' := [(cJ, .long), (cI, .int)]) [0, 1] rfl
  refine va_calli (va_runV (As := []) (rest := []) ⟨hx, hb, hml, hown, hts⟩ (c_Bm_thrown l H dC dI cJ cI m0 1 0 0 0 0 0 0 0 0 0 0 a0 a1 a2 a3 a4 a5 a6 a7 a8 a9 mb0 mb1 oc mb2 mb3 mb4 mb5 hPc) (cwV 0 hts (gw_V gk_1004 gk_1005 gk_1006 gk_7 gk_1007) rfl rfl rfl (by decide +kernel) ⟨(Nat.le_of_ble_eq_true rfl), (Nat.le_of_ble_eq_true rfl)⟩) ⟨fun a U g mk q => ⟨q.1, q.2.1, va_K.moved (u := U) (U := U.calling g mk a) (Vm.Alike.refl U.vm) q.2.2⟩, va_recv hK hP (ci := 8) (q0 := 23) rfl rfl, fun U hU hW => ⟨rfl, hU, va_K.moved hW.alike hKc⟩⟩ rfl rfl hl.1 rfl (lv_room (Nat.le_of_ble_eq_true rfl)) d_law_1591 ⟨show cells + 8 + 0 + 0 ≤ 601024 by omega, show slots + 48 + 0 + 0 ≤ 7293034 by omega⟩) hS (fun q _ h => h.elim) (fun q h => h.elim) (fun r_3 w9 t9 H1 locs ht hvm hw9 hB hz1 hk1 hS => ?_)
  obtain rfl : H = H1 := hB.symm.trans ht
  have hw9 : r_3 = 1 := hw9
  subst hw9
  clear hPc hz1 hk1 hB
  refine lv_iload hx hb d_law_1594 (lv_at hl 1 rfl) ?_
  refine lv_icmp_eq (tgt := 1601) hx hb d_law_1596 (by decide) (fun c_4 => ?_) (fun c_4 => ?_)
  · -- taken
    refine lv_iload hx hb d_law_1601 (lv_at hl 1 rfl) ?_
    refine lv_if_ne (tgt := 1618) hx hb d_law_1603 (by decide) (fun c_5 => ?_) (fun c_5 => ?_)
    · -- taken
      refine lv_goto (tgt := 1965) hx hb d_law_1618 (by decide) ?_
      refine W.widen (k := cells + 20) (n := slots + 200) (by omega) (by omega) ?_
      have hI9 : LI dC dI cJ cI cR A out b0 m0 H := LF.mk hP hD
      exact cont _ _ _ hS hI9 (lv_sub hl [2, 3, 4, 5, 6] rfl)
    · -- not taken
      exact absurd c_5 (by decide)
  · -- not taken
    exact absurd c_4 (by decide)
set_option maxHeartbeats 16000000 in
set_option maxRecDepth 100000 in
theorem bk_audit_f {p : Program} {l : Launch} {e : Env} {s : State} {m : MethodId} {below : List Frame} {meth : Method} {c : Code} {b L : Nat} {xs : Nat → Int32} {dC : Nat → ClassId} {dI : Nat → Nat → Nat} {cJ cI cR : ClassId} {A : Nat → Prop} {out b0 m0 : Nat} {rA sA wA : Nat} (C : LC p l s m meth c b L xs dC dI cJ cI cR A rA sA wA) {i cells slots : Nat} (hi : i + 14 ≤ L) (hcs : cells + 20 ≤ 601024 ∧ slots + 200 ≤ 7293034) (cont : LK p l e s m below meth c b dC dI cJ cI cR A out b0 m0 i (cells + 20) (slots + 200) 1965) {H : Heap} {locs : List Loc} {ls : Array Slot} (hS : va_S A s.heap H locs) (hI : LF dC dI cJ cI cR A out b0 m0 H) (hl : lv_has ls 8 [(4, .int (nI i)), (3, .ref out), (2, .ref m0), (1, .ref b0), (0, .ref b)]) : W p l e room_1 s m #[Value.ref b] below meth c H locs cells slots (lw_Z below #[Value.ref b] s) (F0 m 1866 ls []) := by
  obtain ⟨hnt, ⟨hx, hb, hr, hml, hown, hts0, hX, hbl, hlocks, hgv⟩, hK, hA, hbA, hZha, hZx, hZn, hZw, hL⟩ := C
  have hown : s.vm.findClass "BallotBoardLaw" = some m.cls := hown
  have hts := lw_hts hts0
  refine hI _ (fun bd0 pr0 t0 au0 da h0 ro lo rb lb cm aw ax ay ka aa ba sa tu0 uka uaa uba usa a0 a1 a2 a3 a4 a5 a6 a7 a8 a9 mb0 mb1 oc mb2 mb3 mb4 mb5 cL of w tf nf cf ky lf md sh ccf csc cst bf sc st kf sf vf ct gu d0 d1 d2 d3 d4 d5 d6 d7 e0 R Lk hP hD => ?_)
  refine lv_aload_n hx hb d_law_1866 rfl (lv_at hl 3 rfl) ?_
  refine lv_aload_n hx hb d_law_1867 rfl (lv_at hl 1 rfl) ?_
  have hPc := hP.sub (ws' := (jw_ws out cJ 1 of ++ bb_ws b0 bd0 pr0 t0 au0 da .null)) [0, 1] rfl
  have hDc := hD.sub (ws' := (jw_ws out cJ 1 of ++ bb_ws b0 bd0 pr0 t0 au0 da .null)) [0, 1] (by decide) rfl
  have hKc := hK.sub (tys' := [(cJ, .long), (cI, .int), (cR, .array .long)]) [0, 1, 2] rfl
  have hFc := va_free (wc := (jw_ws out cJ 1 of ++ bb_ws b0 bd0 pr0 t0 au0 da .null)) hD hS hA [0, 1] rfl
  have hZc0 : xz (va_A (jw_ws out cJ 1 of ++ bb_ws b0 bd0 pr0 t0 au0 da .null) H.size) s H := (hZx.kept hS.2.1).narrow hFc
  have hZc1 : nc_Z s := hZn
  refine vx_calli (vx_runSX (hh := h_Lw_audit) (As := [.ref b0, .ref out]) (rest := []) ⟨hx, hb, hml, hown, hts⟩ (c_Lw_audit_n l hnt dC dI cJ cI cR H.size b0 bd0 pr0 t0 au0 da out of) (vx_cwSW 2 hts (gw_Sv gk_787 gk_788 gk_0 gk_789) rfl rfl rfl (by decide +kernel) ⟨(Nat.le_of_ble_eq_true rfl), (Nat.le_of_ble_eq_true rfl)⟩) ⟨fun a U g mk q => by obtain ⟨q0, q1, qP, qK, qD, qZ0, qZ1⟩ := q; exact ⟨q0, q1, qP, va_K.moved (u := U) (U := U.calling g mk a) (Vm.Alike.refl U.vm) qK, qD, xz.same (u := U) (U := U.calling g mk a) rfl qZ0, nc_Z.moved (u := U) (U := U.calling g mk a) (Vm.Alike.refl U.vm) qZ1⟩, fun U hU hW => ⟨rfl, by rw [hU], by rw [hU]; exact hPc, va_K.moved hW.alike hKc, hDc.weaken (fun _ _ _ _ => trivial), by rw [hU]; exact xz.warm hW hZc0, nc_Z.moved hW.alike hZc1⟩⟩ rfl rfl hl.1 rfl (lv_room (Nat.le_of_ble_eq_true rfl)) d_law_1868 ⟨show cells + 8 ≤ 601024 by omega, show slots + 48 ≤ 7293034 by omega⟩) hS (fun q _ h => hFc q h) hFc (fun q _ h => hFc q h) (fun E9 ce9 q9 u8 t9 H1 locs ht hvm hpx hbx hz1 hk1 hS hce hcv hcl => hpx.elim) (fun r_1 u9 t9 H1 locs ht hvm hw hB hz1 hk1 hS => ?_)
  obtain ⟨hP1, hK1, hD1⟩ := hB
  rw [ht] at hP1
  obtain ⟨hP, hD⟩ := va_joinQ (X := (jw_ws out cJ 1 of ++ (bb_ws b0 bd0 pr0 t0 au0 da .null ++ (rw_ws da cJ (r8 d0 d1 d2 d3 d4 d5 d6 d7) ++ (bd_ws bd0 h0 ro lo 0 cR (rrf rb) (rrf lb) ++ (pr_ws pr0 h0 cm cJ ccf ++ (ha_ws h0 aw ax ay cJ cI w csc cst cL ++ (tt_ws t0 ka aa ba sa .null cJ tZ ++ (au_ws au0 bd0 pr0 tu0 0 ++ (tt_ws tu0 uka uaa uba usa gu cJ tZ ++ (mo_ws m0 e0 0 0 0 0 0 0 0 0 0 0 a0 a1 a2 a3 a4 a5 a6 a7 a8 a9 mb0 mb1 oc mb2 mb3 mb4 mb5 ++ (iw_ws a7 cI 256 bf ++ (iw_ws a8 cI 64 sc ++ (iw_ws a9 cI 8 st ++ (iw_ws mb0 cI 8 kS ++ (iw_ws mb1 cI 64 kR ++ (jw_ws a2 cJ 4 tf ++ (jw_ws a0 cJ 1232 nf ++ (jw_ws a1 cJ 616 cf ++ (iw_ws a4 cI 4 kf ++ (jw_ws mb2 cJ 4 ky ++ (jw_ws a3 cJ 16 lf ++ (iw_ws a5 cI 4 sf ++ (iw_ws a6 cI 64 vf ++ (jw_ws mb3 cJ 128 md ++ (jw_ws mb4 cJ 4 sh ++ iw_ws mb5 cI 64 ct)))))))))))))))))))))))))) (cx := (jw_ws out cJ 1 of ++ bb_ws b0 bd0 pr0 t0 au0 da .null)) (wr := (rw_ws da cJ (r8 d0 d1 d2 d3 d4 d5 d6 d7) ++ (bd_ws bd0 h0 ro lo 0 cR (rrf rb) (rrf lb) ++ (pr_ws pr0 h0 cm cJ ccf ++ (ha_ws h0 aw ax ay cJ cI w csc cst cL ++ (tt_ws t0 ka aa ba sa .null cJ tZ ++ (au_ws au0 bd0 pr0 tu0 0 ++ (tt_ws tu0 uka uaa uba usa gu cJ tZ ++ (mo_ws m0 e0 0 0 0 0 0 0 0 0 0 0 a0 a1 a2 a3 a4 a5 a6 a7 a8 a9 mb0 mb1 oc mb2 mb3 mb4 mb5 ++ (iw_ws a7 cI 256 bf ++ (iw_ws a8 cI 64 sc ++ (iw_ws a9 cI 8 st ++ (iw_ws mb0 cI 8 kS ++ (iw_ws mb1 cI 64 kR ++ (jw_ws a2 cJ 4 tf ++ (jw_ws a0 cJ 1232 nf ++ (jw_ws a1 cJ 616 cf ++ (iw_ws a4 cI 4 kf ++ (jw_ws mb2 cJ 4 ky ++ (jw_ws a3 cJ 16 lf ++ (iw_ws a5 cI 4 sf ++ (iw_ws a6 cI 64 vf ++ (jw_ws mb3 cJ 128 md ++ (jw_ws mb4 cJ 4 sh ++ iw_ws mb5 cI 64 ct)))))))))))))))))))))))) (w1 := (jw_ws out cJ 1 of ++ bb_ws b0 bd0 pr0 t0 au0 da .null)) (pl := bpool rb lb cJ R Lk) hP hD [0, 1] [2, 3, 4, 5, 6, 7, 8, 9, 10, 11, 12, 13, 14, 15, 16, 17, 18, 19, 20, 21, 22, 23, 24, 25, 26, 27, 28, 29, 30, 31, 32, 33, 34, 35, 36, 37, 38, 39] rfl rfl (by decide) (by decide) hk1 hFc hP1 hD1
  have hP := hP.part (cx := (jw_ws out cJ 1 of ++ (bb_ws b0 bd0 pr0 t0 au0 da .null ++ (rw_ws da cJ (r8 d0 d1 d2 d3 d4 d5 d6 d7) ++ (bd_ws bd0 h0 ro lo 0 cR (rrf rb) (rrf lb) ++ (pr_ws pr0 h0 cm cJ ccf ++ (ha_ws h0 aw ax ay cJ cI w csc cst cL ++ (tt_ws t0 ka aa ba sa .null cJ tZ ++ (au_ws au0 bd0 pr0 tu0 0 ++ (tt_ws tu0 uka uaa uba usa gu cJ tZ ++ (mo_ws m0 e0 0 0 0 0 0 0 0 0 0 0 a0 a1 a2 a3 a4 a5 a6 a7 a8 a9 mb0 mb1 oc mb2 mb3 mb4 mb5 ++ (iw_ws a7 cI 256 bf ++ (iw_ws a8 cI 64 sc ++ (iw_ws a9 cI 8 st ++ (iw_ws mb0 cI 8 kS ++ (iw_ws mb1 cI 64 kR ++ (jw_ws a2 cJ 4 tf ++ (jw_ws a0 cJ 1232 nf ++ (jw_ws a1 cJ 616 cf ++ (iw_ws a4 cI 4 kf ++ (jw_ws mb2 cJ 4 ky ++ (jw_ws a3 cJ 16 lf ++ (iw_ws a5 cI 4 sf ++ (iw_ws a6 cI 64 vf ++ (jw_ws mb3 cJ 128 md ++ (jw_ws mb4 cJ 4 sh ++ iw_ws mb5 cI 64 ct)))))))))))))))))))))))))) [38, 39, 0, 1, 2, 3, 4, 5, 6, 7, 8, 9, 10, 11, 12, 13, 14, 15, 16, 17, 18, 19, 20, 21, 22, 23, 24, 25, 26, 27, 28, 29, 30, 31, 32, 33, 34, 35, 36, 37] rfl
  have hD := hD.part (cx := (jw_ws out cJ 1 of ++ (bb_ws b0 bd0 pr0 t0 au0 da .null ++ (rw_ws da cJ (r8 d0 d1 d2 d3 d4 d5 d6 d7) ++ (bd_ws bd0 h0 ro lo 0 cR (rrf rb) (rrf lb) ++ (pr_ws pr0 h0 cm cJ ccf ++ (ha_ws h0 aw ax ay cJ cI w csc cst cL ++ (tt_ws t0 ka aa ba sa .null cJ tZ ++ (au_ws au0 bd0 pr0 tu0 0 ++ (tt_ws tu0 uka uaa uba usa gu cJ tZ ++ (mo_ws m0 e0 0 0 0 0 0 0 0 0 0 0 a0 a1 a2 a3 a4 a5 a6 a7 a8 a9 mb0 mb1 oc mb2 mb3 mb4 mb5 ++ (iw_ws a7 cI 256 bf ++ (iw_ws a8 cI 64 sc ++ (iw_ws a9 cI 8 st ++ (iw_ws mb0 cI 8 kS ++ (iw_ws mb1 cI 64 kR ++ (jw_ws a2 cJ 4 tf ++ (jw_ws a0 cJ 1232 nf ++ (jw_ws a1 cJ 616 cf ++ (iw_ws a4 cI 4 kf ++ (jw_ws mb2 cJ 4 ky ++ (jw_ws a3 cJ 16 lf ++ (iw_ws a5 cI 4 sf ++ (iw_ws a6 cI 64 vf ++ (jw_ws mb3 cJ 128 md ++ (jw_ws mb4 cJ 4 sh ++ iw_ws mb5 cI 64 ct)))))))))))))))))))))))))) [38, 39, 0, 1, 2, 3, 4, 5, 6, 7, 8, 9, 10, 11, 12, 13, 14, 15, 16, 17, 18, 19, 20, 21, 22, 23, 24, 25, 26, 27, 28, 29, 30, 31, 32, 33, 34, 35, 36, 37] (by decide) rfl
  generalize H1 = H at hP hS ⊢
  clear hPc hDc hFc hP1 hD1 hK1 ht hk1 hz1
  have hr9 : r_1 = 1 := hw
  subst hr9
  refine lv_istore (lv' := [(5, .int 1), (4, .int (nI i)), (3, .ref out), (2, .ref m0), (1, .ref b0), (0, .ref b)]) hx hb d_law_1871 hl (by decide) rfl (fun ls hl => ?_)
  refine lv_aload_n hx hb d_law_1873 rfl (lv_at hl 3 rfl) ?_
  have hPc := hP.sub (ws' := (mo_ws m0 e0 0 0 0 0 0 0 0 0 0 0 a0 a1 a2 a3 a4 a5 a6 a7 a8 a9 mb0 mb1 oc mb2 mb3 mb4 mb5 ++ iw_ws mb5 cI 64 ct)) [23, 39] rfl
  have hDc := hD.sub (ws' := (mo_ws m0 e0 0 0 0 0 0 0 0 0 0 0 a0 a1 a2 a3 a4 a5 a6 a7 a8 a9 mb0 mb1 oc mb2 mb3 mb4 mb5 ++ iw_ws mb5 cI 64 ct)) [23, 39] (by decide) rfl
  have hKc := hK.sub (tys' := [(cJ, .long), (cI, .int)]) [0, 1] rfl
  have hFc := va_free (wc := (mo_ws m0 e0 0 0 0 0 0 0 0 0 0 0 a0 a1 a2 a3 a4 a5 a6 a7 a8 a9 mb0 mb1 oc mb2 mb3 mb4 mb5 ++ iw_ws mb5 cI 64 ct)) hD hS hA [23, 39] rfl
  refine va_calli (va_runV (As := []) (rest := []) ⟨hx, hb, hml, hown, hts⟩ (c_Bm_audit_1 l dC dI cJ cI H.size m0 e0 0 0 0 0 0 0 0 0 0 0 a0 a1 a2 a3 a4 a5 a6 a7 a8 a9 mb0 mb1 oc mb2 mb3 mb4 mb5 ct rfl) (cwV 0 hts (gw_V gk_1190 gk_1191 gk_1192 gk_7 gk_1193) rfl rfl rfl (by decide +kernel) ⟨(Nat.le_of_ble_eq_true rfl), (Nat.le_of_ble_eq_true rfl)⟩) ⟨fun a U g mk q => by obtain ⟨q0, q1, qP, qK, qD⟩ := q; exact ⟨q0, q1, qP, va_K.moved (u := U) (U := U.calling g mk a) (Vm.Alike.refl U.vm) qK, qD⟩, va_recv hK hP (ci := 8) (q0 := 23) rfl rfl, fun U hU hW => ⟨rfl, by rw [hU], by rw [hU]; exact hPc, va_K.moved hW.alike hKc, hDc.weaken (fun _ _ _ _ => trivial)⟩⟩ rfl rfl hl.1 rfl (lv_room (Nat.le_of_ble_eq_true rfl)) d_law_1874 ⟨show cells + 8 + 0 ≤ 601024 by omega, show slots + 48 + 0 ≤ 7293034 by omega⟩) hS (fun q _ h => hFc q h) hFc (fun r_2 v9 t9 H1 locs ht hvm hw hB hz1 hk1 hS => ?_)
  obtain ⟨hP1, hK1, hD1⟩ := hB
  rw [ht] at hP1
  obtain ⟨hP, hD⟩ := va_joinQ (X := (jw_ws out cJ 1 of ++ (bb_ws b0 bd0 pr0 t0 au0 da .null ++ (rw_ws da cJ (r8 d0 d1 d2 d3 d4 d5 d6 d7) ++ (bd_ws bd0 h0 ro lo 0 cR (rrf rb) (rrf lb) ++ (pr_ws pr0 h0 cm cJ ccf ++ (ha_ws h0 aw ax ay cJ cI w csc cst cL ++ (tt_ws t0 ka aa ba sa .null cJ tZ ++ (au_ws au0 bd0 pr0 tu0 0 ++ (tt_ws tu0 uka uaa uba usa gu cJ tZ ++ (mo_ws m0 e0 0 0 0 0 0 0 0 0 0 0 a0 a1 a2 a3 a4 a5 a6 a7 a8 a9 mb0 mb1 oc mb2 mb3 mb4 mb5 ++ (iw_ws a7 cI 256 bf ++ (iw_ws a8 cI 64 sc ++ (iw_ws a9 cI 8 st ++ (iw_ws mb0 cI 8 kS ++ (iw_ws mb1 cI 64 kR ++ (jw_ws a2 cJ 4 tf ++ (jw_ws a0 cJ 1232 nf ++ (jw_ws a1 cJ 616 cf ++ (iw_ws a4 cI 4 kf ++ (jw_ws mb2 cJ 4 ky ++ (jw_ws a3 cJ 16 lf ++ (iw_ws a5 cI 4 sf ++ (iw_ws a6 cI 64 vf ++ (jw_ws mb3 cJ 128 md ++ (jw_ws mb4 cJ 4 sh ++ iw_ws mb5 cI 64 ct)))))))))))))))))))))))))) (cx := (mo_ws m0 e0 0 0 0 0 0 0 0 0 0 0 a0 a1 a2 a3 a4 a5 a6 a7 a8 a9 mb0 mb1 oc mb2 mb3 mb4 mb5 ++ iw_ws mb5 cI 64 ct)) (wr := (jw_ws out cJ 1 of ++ (bb_ws b0 bd0 pr0 t0 au0 da .null ++ (rw_ws da cJ (r8 d0 d1 d2 d3 d4 d5 d6 d7) ++ (bd_ws bd0 h0 ro lo 0 cR (rrf rb) (rrf lb) ++ (pr_ws pr0 h0 cm cJ ccf ++ (ha_ws h0 aw ax ay cJ cI w csc cst cL ++ (tt_ws t0 ka aa ba sa .null cJ tZ ++ (au_ws au0 bd0 pr0 tu0 0 ++ (tt_ws tu0 uka uaa uba usa gu cJ tZ ++ (iw_ws a7 cI 256 bf ++ (iw_ws a8 cI 64 sc ++ (iw_ws a9 cI 8 st ++ (iw_ws mb0 cI 8 kS ++ (iw_ws mb1 cI 64 kR ++ (jw_ws a2 cJ 4 tf ++ (jw_ws a0 cJ 1232 nf ++ (jw_ws a1 cJ 616 cf ++ (iw_ws a4 cI 4 kf ++ (jw_ws mb2 cJ 4 ky ++ (jw_ws a3 cJ 16 lf ++ (iw_ws a5 cI 4 sf ++ (iw_ws a6 cI 64 vf ++ (jw_ws mb3 cJ 128 md ++ jw_ws mb4 cJ 4 sh)))))))))))))))))))))))) (w1 := (mo_ws m0 1 0 0 0 0 0 0 0 0 0 0 a0 a1 a2 a3 a4 a5 a6 a7 a8 a9 mb0 mb1 oc mb2 mb3 mb4 mb5 ++ iw_ws mb5 cI 64 ct)) (pl := bpool rb lb cJ R Lk) hP hD [23, 39] [0, 1, 2, 3, 4, 5, 6, 7, 8, 9, 10, 11, 12, 13, 14, 15, 16, 17, 18, 19, 20, 21, 22, 24, 25, 26, 27, 28, 29, 30, 31, 32, 33, 34, 35, 36, 37, 38] rfl rfl (by decide) (by decide) hk1 hFc hP1 hD1
  have hP := hP.part (cx := (jw_ws out cJ 1 of ++ (bb_ws b0 bd0 pr0 t0 au0 da .null ++ (rw_ws da cJ (r8 d0 d1 d2 d3 d4 d5 d6 d7) ++ (bd_ws bd0 h0 ro lo 0 cR (rrf rb) (rrf lb) ++ (pr_ws pr0 h0 cm cJ ccf ++ (ha_ws h0 aw ax ay cJ cI w csc cst cL ++ (tt_ws t0 ka aa ba sa .null cJ tZ ++ (au_ws au0 bd0 pr0 tu0 0 ++ (tt_ws tu0 uka uaa uba usa gu cJ tZ ++ (mo_ws m0 1 0 0 0 0 0 0 0 0 0 0 a0 a1 a2 a3 a4 a5 a6 a7 a8 a9 mb0 mb1 oc mb2 mb3 mb4 mb5 ++ (iw_ws a7 cI 256 bf ++ (iw_ws a8 cI 64 sc ++ (iw_ws a9 cI 8 st ++ (iw_ws mb0 cI 8 kS ++ (iw_ws mb1 cI 64 kR ++ (jw_ws a2 cJ 4 tf ++ (jw_ws a0 cJ 1232 nf ++ (jw_ws a1 cJ 616 cf ++ (iw_ws a4 cI 4 kf ++ (jw_ws mb2 cJ 4 ky ++ (jw_ws a3 cJ 16 lf ++ (iw_ws a5 cI 4 sf ++ (iw_ws a6 cI 64 vf ++ (jw_ws mb3 cJ 128 md ++ (jw_ws mb4 cJ 4 sh ++ iw_ws mb5 cI 64 ct)))))))))))))))))))))))))) [0, 1, 2, 3, 4, 5, 6, 7, 8, 9, 10, 11, 12, 13, 14, 15, 16, 17, 18, 19, 20, 21, 22, 38, 23, 24, 25, 26, 27, 28, 29, 30, 31, 32, 33, 34, 35, 36, 37, 39] rfl
  have hD := hD.part (cx := (jw_ws out cJ 1 of ++ (bb_ws b0 bd0 pr0 t0 au0 da .null ++ (rw_ws da cJ (r8 d0 d1 d2 d3 d4 d5 d6 d7) ++ (bd_ws bd0 h0 ro lo 0 cR (rrf rb) (rrf lb) ++ (pr_ws pr0 h0 cm cJ ccf ++ (ha_ws h0 aw ax ay cJ cI w csc cst cL ++ (tt_ws t0 ka aa ba sa .null cJ tZ ++ (au_ws au0 bd0 pr0 tu0 0 ++ (tt_ws tu0 uka uaa uba usa gu cJ tZ ++ (mo_ws m0 1 0 0 0 0 0 0 0 0 0 0 a0 a1 a2 a3 a4 a5 a6 a7 a8 a9 mb0 mb1 oc mb2 mb3 mb4 mb5 ++ (iw_ws a7 cI 256 bf ++ (iw_ws a8 cI 64 sc ++ (iw_ws a9 cI 8 st ++ (iw_ws mb0 cI 8 kS ++ (iw_ws mb1 cI 64 kR ++ (jw_ws a2 cJ 4 tf ++ (jw_ws a0 cJ 1232 nf ++ (jw_ws a1 cJ 616 cf ++ (iw_ws a4 cI 4 kf ++ (jw_ws mb2 cJ 4 ky ++ (jw_ws a3 cJ 16 lf ++ (iw_ws a5 cI 4 sf ++ (iw_ws a6 cI 64 vf ++ (jw_ws mb3 cJ 128 md ++ (jw_ws mb4 cJ 4 sh ++ iw_ws mb5 cI 64 ct)))))))))))))))))))))))))) [0, 1, 2, 3, 4, 5, 6, 7, 8, 9, 10, 11, 12, 13, 14, 15, 16, 17, 18, 19, 20, 21, 22, 38, 23, 24, 25, 26, 27, 28, 29, 30, 31, 32, 33, 34, 35, 36, 37, 39] (by decide) rfl
  generalize H1 = H at hP hS ⊢
  clear hPc hDc hFc hP1 hD1 hK1 ht hk1 hz1
  refine lv_istore (lv' := [(6, .int r_2), (5, .int 1), (4, .int (nI i)), (3, .ref out), (2, .ref m0), (1, .ref b0), (0, .ref b)]) hx hb d_law_1877 hl (by decide) rfl (fun ls hl => ?_)
  refine lv_aload_n hx hb d_law_1879 rfl (lv_at hl 4 rfl) ?_
  have hPc := hP.sub (ws' := (mo_ws m0 1 0 0 0 0 0 0 0 0 0 0 a0 a1 a2 a3 a4 a5 a6 a7 a8 a9 mb0 mb1 oc mb2 mb3 mb4 mb5)) [23] rfl
  have hKc := hK.sub (tys' := [(cJ, .long), (cI, .int)]) [0, 1] rfl
  refine va_calli (va_runV (As := []) (rest := []) ⟨hx, hb, hml, hown, hts⟩ (c_Bm_thrown l H dC dI cJ cI m0 1 0 0 0 0 0 0 0 0 0 0 a0 a1 a2 a3 a4 a5 a6 a7 a8 a9 mb0 mb1 oc mb2 mb3 mb4 mb5 hPc) (cwV 0 hts (gw_V gk_1004 gk_1005 gk_1006 gk_7 gk_1007) rfl rfl rfl (by decide +kernel) ⟨(Nat.le_of_ble_eq_true rfl), (Nat.le_of_ble_eq_true rfl)⟩) ⟨fun a U g mk q => ⟨q.1, q.2.1, va_K.moved (u := U) (U := U.calling g mk a) (Vm.Alike.refl U.vm) q.2.2⟩, va_recv hK hP (ci := 8) (q0 := 23) rfl rfl, fun U hU hW => ⟨rfl, hU, va_K.moved hW.alike hKc⟩⟩ rfl rfl hl.1 rfl (lv_room (Nat.le_of_ble_eq_true rfl)) d_law_1880 ⟨show cells + 8 + 0 + 0 ≤ 601024 by omega, show slots + 48 + 0 + 0 ≤ 7293034 by omega⟩) hS (fun q _ h => h.elim) (fun q h => h.elim) (fun r_3 w9 t9 H1 locs ht hvm hw9 hB hz1 hk1 hS => ?_)
  obtain rfl : H = H1 := hB.symm.trans ht
  have hw9 : r_3 = 1 := hw9
  subst hw9
  clear hPc hz1 hk1 hB
  refine lv_iload hx hb d_law_1883 (lv_at hl 1 rfl) ?_
  refine lv_icmp_eq (tgt := 1890) hx hb d_law_1885 (by decide) (fun c_4 => ?_) (fun c_4 => ?_)
  · -- taken
    refine lv_iload hx hb d_law_1890 (lv_at hl 1 rfl) ?_
    refine lv_if_ne (tgt := 1907) hx hb d_law_1892 (by decide) (fun c_5 => ?_) (fun c_5 => ?_)
    · -- taken
      refine lv_goto (tgt := 1965) hx hb d_law_1907 (by decide) ?_
      refine W.widen (k := cells + 20) (n := slots + 200) (by omega) (by omega) ?_
      have hI9 : LI dC dI cJ cI cR A out b0 m0 H := LF.mk hP hD
      exact cont _ _ _ hS hI9 (lv_sub hl [2, 3, 4, 5, 6] rfl)
    · -- not taken
      exact absurd c_5 (by decide)
  · -- not taken
    exact absurd c_4 (by decide)
set_option maxHeartbeats 16000000 in
set_option maxRecDepth 100000 in
theorem bk_entry_f {p : Program} {l : Launch} {e : Env} {s : State} {m : MethodId} {below : List Frame} {meth : Method} {c : Code} {b L : Nat} {xs : Nat → Int32} {dC : Nat → ClassId} {dI : Nat → Nat → Nat} {cJ cI cR : ClassId} {A : Nat → Prop} {out b0 m0 : Nat} {rA sA wA : Nat} (C : LC p l s m meth c b L xs dC dI cJ cI cR A rA sA wA) {i cells slots : Nat} (hi : i + 14 ≤ L) (hcs : cells + 20 ≤ 601024 ∧ slots + 200 ≤ 7293034) (cont : LK p l e s m below meth c b dC dI cJ cI cR A out b0 m0 i (cells + 20) (slots + 200) 1965) {H : Heap} {locs : List Loc} {ls : Array Slot} (hS : va_S A s.heap H locs) (hI : LF dC dI cJ cI cR A out b0 m0 H) (hl : lv_has ls 8 [(4, .int (nI i)), (3, .ref out), (2, .ref m0), (1, .ref b0), (0, .ref b)]) : W p l e room_1 s m #[Value.ref b] below meth c H locs cells slots (lw_Z below #[Value.ref b] s) (F0 m 1621 ls []) := by
  obtain ⟨hnt, ⟨hx, hb, hr, hml, hown, hts0, hX, hbl, hlocks, hgv⟩, hK, hA, hbA, hZha, hZx, hZn, hZw, hL⟩ := C
  have hown : s.vm.findClass "BallotBoardLaw" = some m.cls := hown
  have hts := lw_hts hts0
  refine hI _ (fun bd0 pr0 t0 au0 da h0 ro lo rb lb cm aw ax ay ka aa ba sa tu0 uka uaa uba usa a0 a1 a2 a3 a4 a5 a6 a7 a8 a9 mb0 mb1 oc mb2 mb3 mb4 mb5 cL of w tf nf cf ky lf md sh ccf csc cst bf sc st kf sf vf ct gu d0 d1 d2 d3 d4 d5 d6 d7 e0 R Lk hP hD => ?_)
  obtain ⟨x1, hx1⟩ : ∃ v, v = xs (i + 1) := ⟨_, rfl⟩
  obtain ⟨x2, hx2⟩ : ∃ v, v = xs (i + 2) := ⟨_, rfl⟩
  refine lv_aload_n hx hb d_law_1621 rfl (lv_at hl 3 rfl) ?_
  refine lv_aload_n hx hb d_law_1622 rfl (lv_at hl 4 rfl) ?_
  refine lv_iload hx hb d_law_1623 (lv_at hl 0 rfl) ?_
  refine lv_iconst (v := 1) hx hb d_law_1625 (by decide) ?_
  refine lv_iadd hx hb d_law_1626 ?_
  rw [show ((nI i) + 1 : Int32) = nI (i + 1) from nI_add _ 1]
  refine va_sld hx hb hX hbl hbA hS (vp_in_nI (by omega) (by omega)) d_law_1627 ?_
  rw [show (xs (nI (i + 1)).toNatClampNeg : Int32) = xs (i + 1) from by rw [nI_clamp (by omega)]]
  rw [show (xs (i + 1) : Int32) = x1 from hx1.symm]
  refine lv_aload_n hx hb d_law_1628 rfl (lv_at hl 4 rfl) ?_
  refine lv_iload hx hb d_law_1629 (lv_at hl 0 rfl) ?_
  refine lv_iconst (v := 2) hx hb d_law_1631 (by decide) ?_
  refine lv_iadd hx hb d_law_1632 ?_
  rw [show ((nI i) + 2 : Int32) = nI (i + 2) from nI_add _ 2]
  refine va_sld hx hb hX hbl hbA hS (vp_in_nI (by omega) (by omega)) d_law_1633 ?_
  rw [show (xs (nI (i + 2)).toNatClampNeg : Int32) = xs (i + 2) from by rw [nI_clamp (by omega)]]
  rw [show (xs (i + 2) : Int32) = x2 from hx2.symm]
  refine lv_aload_n hx hb d_law_1634 rfl (lv_at hl 1 rfl) ?_
  have hPc := hP.part (cx := (jw_ws out cJ 1 of ++ (bb_ws b0 bd0 pr0 t0 au0 da .null ++ bd_ws bd0 h0 ro lo 0 cR (rrf rb) (rrf lb)))) [0, 1, 3, 4, 5] rfl
  have hDc := hD.part (cx := (jw_ws out cJ 1 of ++ (bb_ws b0 bd0 pr0 t0 au0 da .null ++ bd_ws bd0 h0 ro lo 0 cR (rrf rb) (rrf lb)))) [0, 1, 3, 4, 5] (by decide) rfl
  have hKc := hK.sub (tys' := [(cJ, .long), (cI, .int), (cR, .array .long)]) [0, 1, 2] rfl
  have hFc := va_freeP (cx := (jw_ws out cJ 1 of ++ (bb_ws b0 bd0 pr0 t0 au0 da .null ++ bd_ws bd0 h0 ro lo 0 cR (rrf rb) (rrf lb)))) hD hS hA [0, 1, 3, 4, 5] rfl
  have hZc0 : xz (va_A ((jw_ws out cJ 1 of ++ (bb_ws b0 bd0 pr0 t0 au0 da .null ++ bd_ws bd0 h0 ro lo 0 cR (rrf rb) (rrf lb))) ++ bpool rb lb cJ R Lk) H.size) s H := (hZx.kept hS.2.1).narrow hFc
  have hZc1 : nc_Z s := hZn
  refine vx_calli (vx_runSX (hh := h_Lw_entry) (As := [.ref b0, .int x1, .int x2, .ref out]) (rest := []) ⟨hx, hb, hml, hown, hts⟩ (c_Lw_entry_1 l hnt dC dI cJ cI cR H.size b0 bd0 pr0 t0 au0 da .null h0 ro lo 0 rb lb 0 (fun _ => 0) (fun _ => 0) R Lk x1 x2 out of (⟨by omega, fun i h => absurd h (by omega), fun h => absurd h (by omega)⟩) (fun ⟨_, _, _, h, _⟩ => absurd h (by omega))) (vx_cwSW 4 hts (gw_Sv gk_751 gk_752 gk_0 gk_753) rfl rfl rfl (by decide +kernel) ⟨(Nat.le_of_ble_eq_true rfl), (Nat.le_of_ble_eq_true rfl)⟩) ⟨fun a U g mk q => by obtain ⟨q0, q1, qP, qK, qD, qZ0, qZ1⟩ := q; exact ⟨q0, q1, qP, va_K.moved (u := U) (U := U.calling g mk a) (Vm.Alike.refl U.vm) qK, qD, xz.same (u := U) (U := U.calling g mk a) rfl qZ0, nc_Z.moved (u := U) (U := U.calling g mk a) (Vm.Alike.refl U.vm) qZ1⟩, fun U hU hW => ⟨rfl, by rw [hU], by rw [hU]; exact hPc, va_K.moved hW.alike hKc, hDc.weaken (fun _ _ _ _ => trivial), by rw [hU]; exact xz.warm hW hZc0, nc_Z.moved hW.alike hZc1⟩⟩ rfl rfl hl.1 rfl (lv_room (Nat.le_of_ble_eq_true rfl)) d_law_1635 ⟨show cells + 8 ≤ 601024 by omega, show slots + 48 ≤ 7293034 by omega⟩) hS (fun q _ h => hFc q h) hFc (fun q _ h => hFc q h) (fun E9 ce9 q9 u8 t9 H1 locs ht hvm hpx hbx hz1 hk1 hS hce hcv hcl => hpx.elim) (fun r_1 u9 t9 H1 locs ht hvm hw hB hz1 hk1 hS => ?_)
  obtain ⟨hP1, hK1, hD1⟩ := hB
  rw [ht] at hP1
  obtain ⟨hP, hD⟩ := va_joinP (X := (jw_ws out cJ 1 of ++ (bb_ws b0 bd0 pr0 t0 au0 da .null ++ (rw_ws da cJ (r8 d0 d1 d2 d3 d4 d5 d6 d7) ++ (bd_ws bd0 h0 ro lo 0 cR (rrf rb) (rrf lb) ++ (pr_ws pr0 h0 cm cJ ccf ++ (ha_ws h0 aw ax ay cJ cI w csc cst cL ++ (tt_ws t0 ka aa ba sa .null cJ tZ ++ (au_ws au0 bd0 pr0 tu0 0 ++ (tt_ws tu0 uka uaa uba usa gu cJ tZ ++ (mo_ws m0 e0 0 0 0 0 0 0 0 0 0 0 a0 a1 a2 a3 a4 a5 a6 a7 a8 a9 mb0 mb1 oc mb2 mb3 mb4 mb5 ++ (iw_ws a7 cI 256 bf ++ (iw_ws a8 cI 64 sc ++ (iw_ws a9 cI 8 st ++ (iw_ws mb0 cI 8 kS ++ (iw_ws mb1 cI 64 kR ++ (jw_ws a2 cJ 4 tf ++ (jw_ws a0 cJ 1232 nf ++ (jw_ws a1 cJ 616 cf ++ (iw_ws a4 cI 4 kf ++ (jw_ws mb2 cJ 4 ky ++ (jw_ws a3 cJ 16 lf ++ (iw_ws a5 cI 4 sf ++ (iw_ws a6 cI 64 vf ++ (jw_ws mb3 cJ 128 md ++ (jw_ws mb4 cJ 4 sh ++ iw_ws mb5 cI 64 ct)))))))))))))))))))))))))) (cx := (jw_ws out cJ 1 of ++ (bb_ws b0 bd0 pr0 t0 au0 da .null ++ bd_ws bd0 h0 ro lo 0 cR (rrf rb) (rrf lb)))) (wr := (rw_ws da cJ (r8 d0 d1 d2 d3 d4 d5 d6 d7) ++ (pr_ws pr0 h0 cm cJ ccf ++ (ha_ws h0 aw ax ay cJ cI w csc cst cL ++ (tt_ws t0 ka aa ba sa .null cJ tZ ++ (au_ws au0 bd0 pr0 tu0 0 ++ (tt_ws tu0 uka uaa uba usa gu cJ tZ ++ (mo_ws m0 e0 0 0 0 0 0 0 0 0 0 0 a0 a1 a2 a3 a4 a5 a6 a7 a8 a9 mb0 mb1 oc mb2 mb3 mb4 mb5 ++ (iw_ws a7 cI 256 bf ++ (iw_ws a8 cI 64 sc ++ (iw_ws a9 cI 8 st ++ (iw_ws mb0 cI 8 kS ++ (iw_ws mb1 cI 64 kR ++ (jw_ws a2 cJ 4 tf ++ (jw_ws a0 cJ 1232 nf ++ (jw_ws a1 cJ 616 cf ++ (iw_ws a4 cI 4 kf ++ (jw_ws mb2 cJ 4 ky ++ (jw_ws a3 cJ 16 lf ++ (iw_ws a5 cI 4 sf ++ (iw_ws a6 cI 64 vf ++ (jw_ws mb3 cJ 128 md ++ (jw_ws mb4 cJ 4 sh ++ iw_ws mb5 cI 64 ct))))))))))))))))))))))) (rx := (jw_ws out cJ 1 of ++ (bb_ws b0 bd0 pr0 t0 au0 da .null ++ bd_ws bd0 h0 ro lo 0 cR (rrf rb) (rrf lb)))) (pl := bpool rb lb cJ R Lk) (pl1 := bpool rb lb cJ R Lk) hP hD [0, 1, 3, 4, 5] [2, 6, 7, 8, 9, 10, 11, 12, 13, 14, 15, 16, 17, 18, 19, 20, 21, 22, 23, 24, 25, 26, 27, 28, 29, 30, 31, 32, 33, 34, 35, 36, 37, 38, 39] rfl rfl (by decide) (by decide) hk1 hFc hP1 hD1
  have hP := hP.part (cx := (jw_ws out cJ 1 of ++ (bb_ws b0 bd0 pr0 t0 au0 da .null ++ (rw_ws da cJ (r8 d0 d1 d2 d3 d4 d5 d6 d7) ++ (bd_ws bd0 h0 ro lo 0 cR (rrf rb) (rrf lb) ++ (pr_ws pr0 h0 cm cJ ccf ++ (ha_ws h0 aw ax ay cJ cI w csc cst cL ++ (tt_ws t0 ka aa ba sa .null cJ tZ ++ (au_ws au0 bd0 pr0 tu0 0 ++ (tt_ws tu0 uka uaa uba usa gu cJ tZ ++ (mo_ws m0 e0 0 0 0 0 0 0 0 0 0 0 a0 a1 a2 a3 a4 a5 a6 a7 a8 a9 mb0 mb1 oc mb2 mb3 mb4 mb5 ++ (iw_ws a7 cI 256 bf ++ (iw_ws a8 cI 64 sc ++ (iw_ws a9 cI 8 st ++ (iw_ws mb0 cI 8 kS ++ (iw_ws mb1 cI 64 kR ++ (jw_ws a2 cJ 4 tf ++ (jw_ws a0 cJ 1232 nf ++ (jw_ws a1 cJ 616 cf ++ (iw_ws a4 cI 4 kf ++ (jw_ws mb2 cJ 4 ky ++ (jw_ws a3 cJ 16 lf ++ (iw_ws a5 cI 4 sf ++ (iw_ws a6 cI 64 vf ++ (jw_ws mb3 cJ 128 md ++ (jw_ws mb4 cJ 4 sh ++ iw_ws mb5 cI 64 ct)))))))))))))))))))))))))) [35, 36, 0, 37, 38, 39, 1, 2, 3, 4, 5, 6, 7, 8, 9, 10, 11, 12, 13, 14, 15, 16, 17, 18, 19, 20, 21, 22, 23, 24, 25, 26, 27, 28, 29, 30, 31, 32, 33, 34] rfl
  have hD := hD.part (cx := (jw_ws out cJ 1 of ++ (bb_ws b0 bd0 pr0 t0 au0 da .null ++ (rw_ws da cJ (r8 d0 d1 d2 d3 d4 d5 d6 d7) ++ (bd_ws bd0 h0 ro lo 0 cR (rrf rb) (rrf lb) ++ (pr_ws pr0 h0 cm cJ ccf ++ (ha_ws h0 aw ax ay cJ cI w csc cst cL ++ (tt_ws t0 ka aa ba sa .null cJ tZ ++ (au_ws au0 bd0 pr0 tu0 0 ++ (tt_ws tu0 uka uaa uba usa gu cJ tZ ++ (mo_ws m0 e0 0 0 0 0 0 0 0 0 0 0 a0 a1 a2 a3 a4 a5 a6 a7 a8 a9 mb0 mb1 oc mb2 mb3 mb4 mb5 ++ (iw_ws a7 cI 256 bf ++ (iw_ws a8 cI 64 sc ++ (iw_ws a9 cI 8 st ++ (iw_ws mb0 cI 8 kS ++ (iw_ws mb1 cI 64 kR ++ (jw_ws a2 cJ 4 tf ++ (jw_ws a0 cJ 1232 nf ++ (jw_ws a1 cJ 616 cf ++ (iw_ws a4 cI 4 kf ++ (jw_ws mb2 cJ 4 ky ++ (jw_ws a3 cJ 16 lf ++ (iw_ws a5 cI 4 sf ++ (iw_ws a6 cI 64 vf ++ (jw_ws mb3 cJ 128 md ++ (jw_ws mb4 cJ 4 sh ++ iw_ws mb5 cI 64 ct)))))))))))))))))))))))))) [35, 36, 0, 37, 38, 39, 1, 2, 3, 4, 5, 6, 7, 8, 9, 10, 11, 12, 13, 14, 15, 16, 17, 18, 19, 20, 21, 22, 23, 24, 25, 26, 27, 28, 29, 30, 31, 32, 33, 34] (by decide) rfl
  generalize H1 = H at hP hS ⊢
  clear hPc hDc hFc hP1 hD1 hK1 ht hk1 hz1
  have hr9 : r_1 = 1 := hw
  subst hr9
  refine lv_istore (lv' := [(5, .int 1), (4, .int (nI i)), (3, .ref out), (2, .ref m0), (1, .ref b0), (0, .ref b)]) hx hb d_law_1638 hl (by decide) rfl (fun ls hl => ?_)
  refine lv_aload_n hx hb d_law_1640 rfl (lv_at hl 3 rfl) ?_
  refine lv_aload_n hx hb d_law_1641 rfl (lv_at hl 5 rfl) ?_
  refine lv_iload hx hb d_law_1642 (lv_at hl 1 rfl) ?_
  refine lv_iconst (v := 1) hx hb d_law_1644 (by decide) ?_
  refine lv_iadd hx hb d_law_1645 ?_
  rw [show ((nI i) + 1 : Int32) = nI (i + 1) from nI_add _ 1]
  refine va_sld hx hb hX hbl hbA hS (vp_in_nI (by omega) (by omega)) d_law_1646 ?_
  rw [show (xs (nI (i + 1)).toNatClampNeg : Int32) = xs (i + 1) from by rw [nI_clamp (by omega)]]
  rw [show (xs (i + 1) : Int32) = x1 from hx1.symm]
  refine lv_aload_n hx hb d_law_1647 rfl (lv_at hl 5 rfl) ?_
  refine lv_iload hx hb d_law_1648 (lv_at hl 1 rfl) ?_
  refine lv_iconst (v := 2) hx hb d_law_1650 (by decide) ?_
  refine lv_iadd hx hb d_law_1651 ?_
  rw [show ((nI i) + 2 : Int32) = nI (i + 2) from nI_add _ 2]
  refine va_sld hx hb hX hbl hbA hS (vp_in_nI (by omega) (by omega)) d_law_1652 ?_
  rw [show (xs (nI (i + 2)).toNatClampNeg : Int32) = xs (i + 2) from by rw [nI_clamp (by omega)]]
  rw [show (xs (i + 2) : Int32) = x2 from hx2.symm]
  have hPc := hP.sub (ws' := (mo_ws m0 e0 (nI 0) (nI 0) (nI 0) (lN 0) (lN 0) (lN 0) (lN 0) (lN 0) (lN 0) 0 a0 a1 a2 a3 a4 a5 a6 a7 a8 a9 mb0 mb1 oc mb2 mb3 mb4 mb5 ++ jw_ws a0 cJ 1232 nf)) [23, 30] rfl
  have hDc := hD.sub (ws' := (mo_ws m0 e0 (nI 0) (nI 0) (nI 0) (lN 0) (lN 0) (lN 0) (lN 0) (lN 0) (lN 0) 0 a0 a1 a2 a3 a4 a5 a6 a7 a8 a9 mb0 mb1 oc mb2 mb3 mb4 mb5 ++ jw_ws a0 cJ 1232 nf)) [23, 30] (by decide) rfl
  have hKc := hK.sub (tys' := [(cJ, .long), (cI, .int)]) [0, 1] rfl
  have hFc := va_free (wc := (mo_ws m0 e0 (nI 0) (nI 0) (nI 0) (lN 0) (lN 0) (lN 0) (lN 0) (lN 0) (lN 0) 0 a0 a1 a2 a3 a4 a5 a6 a7 a8 a9 mb0 mb1 oc mb2 mb3 mb4 mb5 ++ jw_ws a0 cJ 1232 nf)) hD hS hA [23, 30] rfl
  refine va_calll (va_runV (As := [.int x1, .int x2]) (rest := []) ⟨hx, hb, hml, hown, hts⟩ (c_Bm_entry_1 l dC dI cJ cI H.size m0 e0 0 0 0 0 0 0 0 0 0 0 a0 a1 a2 a3 a4 a5 a6 a7 a8 a9 mb0 mb1 oc mb2 mb3 mb4 mb5 nf (fun _ => 0) x1 x2 (Nat.zero_le _) (fun k h => absurd h (by omega)) (fun ⟨_, _, _, h, _⟩ => absurd h (by omega))) (cwV 2 hts (gw_V gk_1178 gk_1179 gk_1180 gk_7 gk_1181) rfl rfl rfl (by decide +kernel) ⟨(Nat.le_of_ble_eq_true rfl), (Nat.le_of_ble_eq_true rfl)⟩) ⟨fun a U g mk q => by obtain ⟨q0, q1, qP, qK, qD⟩ := q; exact ⟨q0, q1, qP, va_K.moved (u := U) (U := U.calling g mk a) (Vm.Alike.refl U.vm) qK, qD⟩, va_recv hK hP (ci := 8) (q0 := 23) rfl rfl, fun U hU hW => ⟨rfl, by rw [hU], by rw [hU]; exact hPc, va_K.moved hW.alike hKc, hDc.weaken (fun _ _ _ _ => trivial)⟩⟩ rfl rfl hl.1 rfl (lv_room (Nat.le_of_ble_eq_true rfl)) d_law_1653 ⟨show cells + 8 + 0 ≤ 601024 by omega, show slots + 48 + 0 ≤ 7293034 by omega⟩) hS (fun q _ h => hFc q h) hFc (fun r_2 v9 t9 H1 locs ht hvm hw hB hz1 hk1 hS => ?_)
  obtain ⟨hP1, hK1, hD1⟩ := hB
  rw [ht] at hP1
  obtain ⟨hP, hD⟩ := va_joinQ (X := (jw_ws out cJ 1 of ++ (bb_ws b0 bd0 pr0 t0 au0 da .null ++ (rw_ws da cJ (r8 d0 d1 d2 d3 d4 d5 d6 d7) ++ (bd_ws bd0 h0 ro lo 0 cR (rrf rb) (rrf lb) ++ (pr_ws pr0 h0 cm cJ ccf ++ (ha_ws h0 aw ax ay cJ cI w csc cst cL ++ (tt_ws t0 ka aa ba sa .null cJ tZ ++ (au_ws au0 bd0 pr0 tu0 0 ++ (tt_ws tu0 uka uaa uba usa gu cJ tZ ++ (mo_ws m0 e0 0 0 0 0 0 0 0 0 0 0 a0 a1 a2 a3 a4 a5 a6 a7 a8 a9 mb0 mb1 oc mb2 mb3 mb4 mb5 ++ (iw_ws a7 cI 256 bf ++ (iw_ws a8 cI 64 sc ++ (iw_ws a9 cI 8 st ++ (iw_ws mb0 cI 8 kS ++ (iw_ws mb1 cI 64 kR ++ (jw_ws a2 cJ 4 tf ++ (jw_ws a0 cJ 1232 nf ++ (jw_ws a1 cJ 616 cf ++ (iw_ws a4 cI 4 kf ++ (jw_ws mb2 cJ 4 ky ++ (jw_ws a3 cJ 16 lf ++ (iw_ws a5 cI 4 sf ++ (iw_ws a6 cI 64 vf ++ (jw_ws mb3 cJ 128 md ++ (jw_ws mb4 cJ 4 sh ++ iw_ws mb5 cI 64 ct)))))))))))))))))))))))))) (cx := (mo_ws m0 e0 (nI 0) (nI 0) (nI 0) (lN 0) (lN 0) (lN 0) (lN 0) (lN 0) (lN 0) 0 a0 a1 a2 a3 a4 a5 a6 a7 a8 a9 mb0 mb1 oc mb2 mb3 mb4 mb5 ++ jw_ws a0 cJ 1232 nf)) (wr := (jw_ws out cJ 1 of ++ (bb_ws b0 bd0 pr0 t0 au0 da .null ++ (rw_ws da cJ (r8 d0 d1 d2 d3 d4 d5 d6 d7) ++ (bd_ws bd0 h0 ro lo 0 cR (rrf rb) (rrf lb) ++ (pr_ws pr0 h0 cm cJ ccf ++ (ha_ws h0 aw ax ay cJ cI w csc cst cL ++ (tt_ws t0 ka aa ba sa .null cJ tZ ++ (au_ws au0 bd0 pr0 tu0 0 ++ (tt_ws tu0 uka uaa uba usa gu cJ tZ ++ (iw_ws a7 cI 256 bf ++ (iw_ws a8 cI 64 sc ++ (iw_ws a9 cI 8 st ++ (iw_ws mb0 cI 8 kS ++ (iw_ws mb1 cI 64 kR ++ (jw_ws a2 cJ 4 tf ++ (jw_ws a1 cJ 616 cf ++ (iw_ws a4 cI 4 kf ++ (jw_ws mb2 cJ 4 ky ++ (jw_ws a3 cJ 16 lf ++ (iw_ws a5 cI 4 sf ++ (iw_ws a6 cI 64 vf ++ (jw_ws mb3 cJ 128 md ++ (jw_ws mb4 cJ 4 sh ++ iw_ws mb5 cI 64 ct)))))))))))))))))))))))) (w1 := (mo_ws m0 1 (nI 0) (nI 0) (nI 0) (lN 0) (lN 0) (lN 0) (lN 0) (lN 0) (lN 0) 0 a0 a1 a2 a3 a4 a5 a6 a7 a8 a9 mb0 mb1 oc mb2 mb3 mb4 mb5 ++ jw_ws a0 cJ 1232 nf)) (pl := bpool rb lb cJ R Lk) hP hD [23, 30] [0, 1, 2, 3, 4, 5, 6, 7, 8, 9, 10, 11, 12, 13, 14, 15, 16, 17, 18, 19, 20, 21, 22, 24, 25, 26, 27, 28, 29, 31, 32, 33, 34, 35, 36, 37, 38, 39] rfl rfl (by decide) (by decide) hk1 hFc hP1 hD1
  have hP := hP.part (cx := (jw_ws out cJ 1 of ++ (bb_ws b0 bd0 pr0 t0 au0 da .null ++ (rw_ws da cJ (r8 d0 d1 d2 d3 d4 d5 d6 d7) ++ (bd_ws bd0 h0 ro lo 0 cR (rrf rb) (rrf lb) ++ (pr_ws pr0 h0 cm cJ ccf ++ (ha_ws h0 aw ax ay cJ cI w csc cst cL ++ (tt_ws t0 ka aa ba sa .null cJ tZ ++ (au_ws au0 bd0 pr0 tu0 0 ++ (tt_ws tu0 uka uaa uba usa gu cJ tZ ++ (mo_ws m0 1 (nI 0) (nI 0) (nI 0) (lN 0) (lN 0) (lN 0) (lN 0) (lN 0) (lN 0) 0 a0 a1 a2 a3 a4 a5 a6 a7 a8 a9 mb0 mb1 oc mb2 mb3 mb4 mb5 ++ (iw_ws a7 cI 256 bf ++ (iw_ws a8 cI 64 sc ++ (iw_ws a9 cI 8 st ++ (iw_ws mb0 cI 8 kS ++ (iw_ws mb1 cI 64 kR ++ (jw_ws a2 cJ 4 tf ++ (jw_ws a0 cJ 1232 nf ++ (jw_ws a1 cJ 616 cf ++ (iw_ws a4 cI 4 kf ++ (jw_ws mb2 cJ 4 ky ++ (jw_ws a3 cJ 16 lf ++ (iw_ws a5 cI 4 sf ++ (iw_ws a6 cI 64 vf ++ (jw_ws mb3 cJ 128 md ++ (jw_ws mb4 cJ 4 sh ++ iw_ws mb5 cI 64 ct)))))))))))))))))))))))))) [0, 1, 2, 3, 4, 5, 6, 7, 8, 9, 10, 11, 12, 13, 14, 15, 16, 17, 18, 19, 20, 21, 22, 38, 23, 24, 25, 26, 27, 28, 39, 29, 30, 31, 32, 33, 34, 35, 36, 37] rfl
  have hD := hD.part (cx := (jw_ws out cJ 1 of ++ (bb_ws b0 bd0 pr0 t0 au0 da .null ++ (rw_ws da cJ (r8 d0 d1 d2 d3 d4 d5 d6 d7) ++ (bd_ws bd0 h0 ro lo 0 cR (rrf rb) (rrf lb) ++ (pr_ws pr0 h0 cm cJ ccf ++ (ha_ws h0 aw ax ay cJ cI w csc cst cL ++ (tt_ws t0 ka aa ba sa .null cJ tZ ++ (au_ws au0 bd0 pr0 tu0 0 ++ (tt_ws tu0 uka uaa uba usa gu cJ tZ ++ (mo_ws m0 1 (nI 0) (nI 0) (nI 0) (lN 0) (lN 0) (lN 0) (lN 0) (lN 0) (lN 0) 0 a0 a1 a2 a3 a4 a5 a6 a7 a8 a9 mb0 mb1 oc mb2 mb3 mb4 mb5 ++ (iw_ws a7 cI 256 bf ++ (iw_ws a8 cI 64 sc ++ (iw_ws a9 cI 8 st ++ (iw_ws mb0 cI 8 kS ++ (iw_ws mb1 cI 64 kR ++ (jw_ws a2 cJ 4 tf ++ (jw_ws a0 cJ 1232 nf ++ (jw_ws a1 cJ 616 cf ++ (iw_ws a4 cI 4 kf ++ (jw_ws mb2 cJ 4 ky ++ (jw_ws a3 cJ 16 lf ++ (iw_ws a5 cI 4 sf ++ (iw_ws a6 cI 64 vf ++ (jw_ws mb3 cJ 128 md ++ (jw_ws mb4 cJ 4 sh ++ iw_ws mb5 cI 64 ct)))))))))))))))))))))))))) [0, 1, 2, 3, 4, 5, 6, 7, 8, 9, 10, 11, 12, 13, 14, 15, 16, 17, 18, 19, 20, 21, 22, 38, 23, 24, 25, 26, 27, 28, 39, 29, 30, 31, 32, 33, 34, 35, 36, 37] (by decide) rfl
  generalize H1 = H at hP hS ⊢
  clear hPc hDc hFc hP1 hD1 hK1 ht hk1 hz1
  refine lv_lstore (lv' := [(6, .long r_2), (5, .int 1), (4, .int (nI i)), (3, .ref out), (2, .ref m0), (1, .ref b0), (0, .ref b)]) hx hb d_law_1656 hl (by decide) rfl (fun ls hl => ?_)
  refine lv_aload_n hx hb d_law_1658 rfl (lv_at hl 4 rfl) ?_
  have hPc := hP.sub (ws' := (mo_ws m0 1 (nI 0) (nI 0) (nI 0) (lN 0) (lN 0) (lN 0) (lN 0) (lN 0) (lN 0) 0 a0 a1 a2 a3 a4 a5 a6 a7 a8 a9 mb0 mb1 oc mb2 mb3 mb4 mb5)) [23] rfl
  have hKc := hK.sub (tys' := [(cJ, .long), (cI, .int)]) [0, 1] rfl
  refine va_calli (va_runV (As := []) (rest := []) ⟨hx, hb, hml, hown, hts⟩ (c_Bm_thrown l H dC dI cJ cI m0 1 (nI 0) (nI 0) (nI 0) (lN 0) (lN 0) (lN 0) (lN 0) (lN 0) (lN 0) 0 a0 a1 a2 a3 a4 a5 a6 a7 a8 a9 mb0 mb1 oc mb2 mb3 mb4 mb5 hPc) (cwV 0 hts (gw_V gk_1004 gk_1005 gk_1006 gk_7 gk_1007) rfl rfl rfl (by decide +kernel) ⟨(Nat.le_of_ble_eq_true rfl), (Nat.le_of_ble_eq_true rfl)⟩) ⟨fun a U g mk q => ⟨q.1, q.2.1, va_K.moved (u := U) (U := U.calling g mk a) (Vm.Alike.refl U.vm) q.2.2⟩, va_recv hK hP (ci := 8) (q0 := 23) rfl rfl, fun U hU hW => ⟨rfl, hU, va_K.moved hW.alike hKc⟩⟩ rfl rfl hl.1 rfl (lv_room (Nat.le_of_ble_eq_true rfl)) d_law_1659 ⟨show cells + 8 + 0 + 0 ≤ 601024 by omega, show slots + 48 + 0 + 0 ≤ 7293034 by omega⟩) hS (fun q _ h => h.elim) (fun q h => h.elim) (fun r_3 w9 t9 H1 locs ht hvm hw9 hB hz1 hk1 hS => ?_)
  obtain rfl : H = H1 := hB.symm.trans ht
  have hw9 : r_3 = 1 := hw9
  subst hw9
  clear hPc hz1 hk1 hB
  refine lv_iload hx hb d_law_1662 (lv_at hl 1 rfl) ?_
  refine lv_icmp_eq (tgt := 1669) hx hb d_law_1664 (by decide) (fun c_4 => ?_) (fun c_4 => ?_)
  · -- taken
    refine lv_iload hx hb d_law_1669 (lv_at hl 1 rfl) ?_
    refine lv_if_ne (tgt := 1685) hx hb d_law_1671 (by decide) (fun c_5 => ?_) (fun c_5 => ?_)
    · -- taken
      refine lv_goto (tgt := 1965) hx hb d_law_1685 (by decide) ?_
      refine W.widen (k := cells + 20) (n := slots + 200) (by omega) (by omega) ?_
      have hI9 : LI dC dI cJ cI cR A out b0 m0 H := LF.mk hP hD
      exact cont _ _ _ hS hI9 (lv_sub hl [2, 3, 4, 5, 6] rfl)
    · -- not taken
      exact absurd c_5 (by decide)
  · -- not taken
    exact absurd c_4 (by decide)
set_option maxHeartbeats 16000000 in
set_option maxRecDepth 100000 in
theorem bk_chain_f {p : Program} {l : Launch} {e : Env} {s : State} {m : MethodId} {below : List Frame} {meth : Method} {c : Code} {b L : Nat} {xs : Nat → Int32} {dC : Nat → ClassId} {dI : Nat → Nat → Nat} {cJ cI cR : ClassId} {A : Nat → Prop} {out b0 m0 : Nat} {rA sA wA : Nat} (C : LC p l s m meth c b L xs dC dI cJ cI cR A rA sA wA) {i cells slots : Nat} (hi : i + 14 ≤ L) (hcs : cells + 20 ≤ 601024 ∧ slots + 200 ≤ 7293034) (cont : LK p l e s m below meth c b dC dI cJ cI cR A out b0 m0 i (cells + 20) (slots + 200) 1965) {H : Heap} {locs : List Loc} {ls : Array Slot} (hS : va_S A s.heap H locs) (hI : LF dC dI cJ cI cR A out b0 m0 H) (hl : lv_has ls 8 [(4, .int (nI i)), (3, .ref out), (2, .ref m0), (1, .ref b0), (0, .ref b)]) : W p l e room_1 s m #[Value.ref b] below meth c H locs cells slots (lw_Z below #[Value.ref b] s) (F0 m 1688 ls []) := by
  obtain ⟨hnt, ⟨hx, hb, hr, hml, hown, hts0, hX, hbl, hlocks, hgv⟩, hK, hA, hbA, hZha, hZx, hZn, hZw, hL⟩ := C
  have hown : s.vm.findClass "BallotBoardLaw" = some m.cls := hown
  have hts := lw_hts hts0
  refine hI _ (fun bd0 pr0 t0 au0 da h0 ro lo rb lb cm aw ax ay ka aa ba sa tu0 uka uaa uba usa a0 a1 a2 a3 a4 a5 a6 a7 a8 a9 mb0 mb1 oc mb2 mb3 mb4 mb5 cL of w tf nf cf ky lf md sh ccf csc cst bf sc st kf sf vf ct gu d0 d1 d2 d3 d4 d5 d6 d7 e0 R Lk hP hD => ?_)
  obtain ⟨x1, hx1⟩ : ∃ v, v = xs (i + 1) := ⟨_, rfl⟩
  obtain ⟨x2, hx2⟩ : ∃ v, v = xs (i + 2) := ⟨_, rfl⟩
  refine lv_aload_n hx hb d_law_1688 rfl (lv_at hl 3 rfl) ?_
  refine lv_aload_n hx hb d_law_1689 rfl (lv_at hl 4 rfl) ?_
  refine lv_iload hx hb d_law_1690 (lv_at hl 0 rfl) ?_
  refine lv_iconst (v := 1) hx hb d_law_1692 (by decide) ?_
  refine lv_iadd hx hb d_law_1693 ?_
  rw [show ((nI i) + 1 : Int32) = nI (i + 1) from nI_add _ 1]
  refine va_sld hx hb hX hbl hbA hS (vp_in_nI (by omega) (by omega)) d_law_1694 ?_
  rw [show (xs (nI (i + 1)).toNatClampNeg : Int32) = xs (i + 1) from by rw [nI_clamp (by omega)]]
  rw [show (xs (i + 1) : Int32) = x1 from hx1.symm]
  refine lv_aload_n hx hb d_law_1695 rfl (lv_at hl 4 rfl) ?_
  refine lv_iload hx hb d_law_1696 (lv_at hl 0 rfl) ?_
  refine lv_iconst (v := 2) hx hb d_law_1698 (by decide) ?_
  refine lv_iadd hx hb d_law_1699 ?_
  rw [show ((nI i) + 2 : Int32) = nI (i + 2) from nI_add _ 2]
  refine va_sld hx hb hX hbl hbA hS (vp_in_nI (by omega) (by omega)) d_law_1700 ?_
  rw [show (xs (nI (i + 2)).toNatClampNeg : Int32) = xs (i + 2) from by rw [nI_clamp (by omega)]]
  rw [show (xs (i + 2) : Int32) = x2 from hx2.symm]
  refine lv_aload_n hx hb d_law_1701 rfl (lv_at hl 1 rfl) ?_
  have hPc := hP.part (cx := (jw_ws out cJ 1 of ++ (bb_ws b0 bd0 pr0 t0 au0 da .null ++ bd_ws bd0 h0 ro lo 0 cR (rrf rb) (rrf lb)))) [0, 1, 3, 4, 5] rfl
  have hDc := hD.part (cx := (jw_ws out cJ 1 of ++ (bb_ws b0 bd0 pr0 t0 au0 da .null ++ bd_ws bd0 h0 ro lo 0 cR (rrf rb) (rrf lb)))) [0, 1, 3, 4, 5] (by decide) rfl
  have hKc := hK.sub (tys' := [(cJ, .long), (cI, .int), (cR, .array .long)]) [0, 1, 2] rfl
  have hFc := va_freeP (cx := (jw_ws out cJ 1 of ++ (bb_ws b0 bd0 pr0 t0 au0 da .null ++ bd_ws bd0 h0 ro lo 0 cR (rrf rb) (rrf lb)))) hD hS hA [0, 1, 3, 4, 5] rfl
  have hZc0 : xz (va_A ((jw_ws out cJ 1 of ++ (bb_ws b0 bd0 pr0 t0 au0 da .null ++ bd_ws bd0 h0 ro lo 0 cR (rrf rb) (rrf lb))) ++ bpool rb lb cJ R Lk) H.size) s H := (hZx.kept hS.2.1).narrow hFc
  have hZc1 : nc_Z s := hZn
  refine vx_calli (vx_runSX (hh := h_Lw_chain) (As := [.ref b0, .int x1, .int x2, .ref out]) (rest := []) ⟨hx, hb, hml, hown, hts⟩ (c_Lw_chain_1 l hnt dC dI cJ cI cR H.size b0 bd0 pr0 t0 au0 da .null h0 ro lo 0 rb lb 0 (fun _ => 0) (fun _ => 0) R Lk x1 x2 out of (⟨by omega, fun i h => absurd h (by omega), fun h => absurd h (by omega)⟩) (fun ⟨_, _, _, h, _⟩ => absurd h (by omega))) (vx_cwSW 4 hts (gw_Sv gk_767 gk_768 gk_0 gk_769) rfl rfl rfl (by decide +kernel) ⟨(Nat.le_of_ble_eq_true rfl), (Nat.le_of_ble_eq_true rfl)⟩) ⟨fun a U g mk q => by obtain ⟨q0, q1, qP, qK, qD, qZ0, qZ1⟩ := q; exact ⟨q0, q1, qP, va_K.moved (u := U) (U := U.calling g mk a) (Vm.Alike.refl U.vm) qK, qD, xz.same (u := U) (U := U.calling g mk a) rfl qZ0, nc_Z.moved (u := U) (U := U.calling g mk a) (Vm.Alike.refl U.vm) qZ1⟩, fun U hU hW => ⟨rfl, by rw [hU], by rw [hU]; exact hPc, va_K.moved hW.alike hKc, hDc.weaken (fun _ _ _ _ => trivial), by rw [hU]; exact xz.warm hW hZc0, nc_Z.moved hW.alike hZc1⟩⟩ rfl rfl hl.1 rfl (lv_room (Nat.le_of_ble_eq_true rfl)) d_law_1702 ⟨show cells + 8 ≤ 601024 by omega, show slots + 48 ≤ 7293034 by omega⟩) hS (fun q _ h => hFc q h) hFc (fun q _ h => hFc q h) (fun E9 ce9 q9 u8 t9 H1 locs ht hvm hpx hbx hz1 hk1 hS hce hcv hcl => hpx.elim) (fun r_1 u9 t9 H1 locs ht hvm hw hB hz1 hk1 hS => ?_)
  obtain ⟨hP1, hK1, hD1⟩ := hB
  rw [ht] at hP1
  obtain ⟨hP, hD⟩ := va_joinP (X := (jw_ws out cJ 1 of ++ (bb_ws b0 bd0 pr0 t0 au0 da .null ++ (rw_ws da cJ (r8 d0 d1 d2 d3 d4 d5 d6 d7) ++ (bd_ws bd0 h0 ro lo 0 cR (rrf rb) (rrf lb) ++ (pr_ws pr0 h0 cm cJ ccf ++ (ha_ws h0 aw ax ay cJ cI w csc cst cL ++ (tt_ws t0 ka aa ba sa .null cJ tZ ++ (au_ws au0 bd0 pr0 tu0 0 ++ (tt_ws tu0 uka uaa uba usa gu cJ tZ ++ (mo_ws m0 e0 0 0 0 0 0 0 0 0 0 0 a0 a1 a2 a3 a4 a5 a6 a7 a8 a9 mb0 mb1 oc mb2 mb3 mb4 mb5 ++ (iw_ws a7 cI 256 bf ++ (iw_ws a8 cI 64 sc ++ (iw_ws a9 cI 8 st ++ (iw_ws mb0 cI 8 kS ++ (iw_ws mb1 cI 64 kR ++ (jw_ws a2 cJ 4 tf ++ (jw_ws a0 cJ 1232 nf ++ (jw_ws a1 cJ 616 cf ++ (iw_ws a4 cI 4 kf ++ (jw_ws mb2 cJ 4 ky ++ (jw_ws a3 cJ 16 lf ++ (iw_ws a5 cI 4 sf ++ (iw_ws a6 cI 64 vf ++ (jw_ws mb3 cJ 128 md ++ (jw_ws mb4 cJ 4 sh ++ iw_ws mb5 cI 64 ct)))))))))))))))))))))))))) (cx := (jw_ws out cJ 1 of ++ (bb_ws b0 bd0 pr0 t0 au0 da .null ++ bd_ws bd0 h0 ro lo 0 cR (rrf rb) (rrf lb)))) (wr := (rw_ws da cJ (r8 d0 d1 d2 d3 d4 d5 d6 d7) ++ (pr_ws pr0 h0 cm cJ ccf ++ (ha_ws h0 aw ax ay cJ cI w csc cst cL ++ (tt_ws t0 ka aa ba sa .null cJ tZ ++ (au_ws au0 bd0 pr0 tu0 0 ++ (tt_ws tu0 uka uaa uba usa gu cJ tZ ++ (mo_ws m0 e0 0 0 0 0 0 0 0 0 0 0 a0 a1 a2 a3 a4 a5 a6 a7 a8 a9 mb0 mb1 oc mb2 mb3 mb4 mb5 ++ (iw_ws a7 cI 256 bf ++ (iw_ws a8 cI 64 sc ++ (iw_ws a9 cI 8 st ++ (iw_ws mb0 cI 8 kS ++ (iw_ws mb1 cI 64 kR ++ (jw_ws a2 cJ 4 tf ++ (jw_ws a0 cJ 1232 nf ++ (jw_ws a1 cJ 616 cf ++ (iw_ws a4 cI 4 kf ++ (jw_ws mb2 cJ 4 ky ++ (jw_ws a3 cJ 16 lf ++ (iw_ws a5 cI 4 sf ++ (iw_ws a6 cI 64 vf ++ (jw_ws mb3 cJ 128 md ++ (jw_ws mb4 cJ 4 sh ++ iw_ws mb5 cI 64 ct))))))))))))))))))))))) (rx := (jw_ws out cJ 1 of ++ (bb_ws b0 bd0 pr0 t0 au0 da .null ++ bd_ws bd0 h0 ro lo 0 cR (rrf rb) (rrf lb)))) (pl := bpool rb lb cJ R Lk) (pl1 := bpool rb lb cJ R Lk) hP hD [0, 1, 3, 4, 5] [2, 6, 7, 8, 9, 10, 11, 12, 13, 14, 15, 16, 17, 18, 19, 20, 21, 22, 23, 24, 25, 26, 27, 28, 29, 30, 31, 32, 33, 34, 35, 36, 37, 38, 39] rfl rfl (by decide) (by decide) hk1 hFc hP1 hD1
  have hP := hP.part (cx := (jw_ws out cJ 1 of ++ (bb_ws b0 bd0 pr0 t0 au0 da .null ++ (rw_ws da cJ (r8 d0 d1 d2 d3 d4 d5 d6 d7) ++ (bd_ws bd0 h0 ro lo 0 cR (rrf rb) (rrf lb) ++ (pr_ws pr0 h0 cm cJ ccf ++ (ha_ws h0 aw ax ay cJ cI w csc cst cL ++ (tt_ws t0 ka aa ba sa .null cJ tZ ++ (au_ws au0 bd0 pr0 tu0 0 ++ (tt_ws tu0 uka uaa uba usa gu cJ tZ ++ (mo_ws m0 e0 0 0 0 0 0 0 0 0 0 0 a0 a1 a2 a3 a4 a5 a6 a7 a8 a9 mb0 mb1 oc mb2 mb3 mb4 mb5 ++ (iw_ws a7 cI 256 bf ++ (iw_ws a8 cI 64 sc ++ (iw_ws a9 cI 8 st ++ (iw_ws mb0 cI 8 kS ++ (iw_ws mb1 cI 64 kR ++ (jw_ws a2 cJ 4 tf ++ (jw_ws a0 cJ 1232 nf ++ (jw_ws a1 cJ 616 cf ++ (iw_ws a4 cI 4 kf ++ (jw_ws mb2 cJ 4 ky ++ (jw_ws a3 cJ 16 lf ++ (iw_ws a5 cI 4 sf ++ (iw_ws a6 cI 64 vf ++ (jw_ws mb3 cJ 128 md ++ (jw_ws mb4 cJ 4 sh ++ iw_ws mb5 cI 64 ct)))))))))))))))))))))))))) [35, 36, 0, 37, 38, 39, 1, 2, 3, 4, 5, 6, 7, 8, 9, 10, 11, 12, 13, 14, 15, 16, 17, 18, 19, 20, 21, 22, 23, 24, 25, 26, 27, 28, 29, 30, 31, 32, 33, 34] rfl
  have hD := hD.part (cx := (jw_ws out cJ 1 of ++ (bb_ws b0 bd0 pr0 t0 au0 da .null ++ (rw_ws da cJ (r8 d0 d1 d2 d3 d4 d5 d6 d7) ++ (bd_ws bd0 h0 ro lo 0 cR (rrf rb) (rrf lb) ++ (pr_ws pr0 h0 cm cJ ccf ++ (ha_ws h0 aw ax ay cJ cI w csc cst cL ++ (tt_ws t0 ka aa ba sa .null cJ tZ ++ (au_ws au0 bd0 pr0 tu0 0 ++ (tt_ws tu0 uka uaa uba usa gu cJ tZ ++ (mo_ws m0 e0 0 0 0 0 0 0 0 0 0 0 a0 a1 a2 a3 a4 a5 a6 a7 a8 a9 mb0 mb1 oc mb2 mb3 mb4 mb5 ++ (iw_ws a7 cI 256 bf ++ (iw_ws a8 cI 64 sc ++ (iw_ws a9 cI 8 st ++ (iw_ws mb0 cI 8 kS ++ (iw_ws mb1 cI 64 kR ++ (jw_ws a2 cJ 4 tf ++ (jw_ws a0 cJ 1232 nf ++ (jw_ws a1 cJ 616 cf ++ (iw_ws a4 cI 4 kf ++ (jw_ws mb2 cJ 4 ky ++ (jw_ws a3 cJ 16 lf ++ (iw_ws a5 cI 4 sf ++ (iw_ws a6 cI 64 vf ++ (jw_ws mb3 cJ 128 md ++ (jw_ws mb4 cJ 4 sh ++ iw_ws mb5 cI 64 ct)))))))))))))))))))))))))) [35, 36, 0, 37, 38, 39, 1, 2, 3, 4, 5, 6, 7, 8, 9, 10, 11, 12, 13, 14, 15, 16, 17, 18, 19, 20, 21, 22, 23, 24, 25, 26, 27, 28, 29, 30, 31, 32, 33, 34] (by decide) rfl
  generalize H1 = H at hP hS ⊢
  clear hPc hDc hFc hP1 hD1 hK1 ht hk1 hz1
  have hr9 : r_1 = 1 := hw
  subst hr9
  refine lv_istore (lv' := [(5, .int 1), (4, .int (nI i)), (3, .ref out), (2, .ref m0), (1, .ref b0), (0, .ref b)]) hx hb d_law_1705 hl (by decide) rfl (fun ls hl => ?_)
  refine lv_aload_n hx hb d_law_1707 rfl (lv_at hl 3 rfl) ?_
  refine lv_aload_n hx hb d_law_1708 rfl (lv_at hl 5 rfl) ?_
  refine lv_iload hx hb d_law_1709 (lv_at hl 1 rfl) ?_
  refine lv_iconst (v := 1) hx hb d_law_1711 (by decide) ?_
  refine lv_iadd hx hb d_law_1712 ?_
  rw [show ((nI i) + 1 : Int32) = nI (i + 1) from nI_add _ 1]
  refine va_sld hx hb hX hbl hbA hS (vp_in_nI (by omega) (by omega)) d_law_1713 ?_
  rw [show (xs (nI (i + 1)).toNatClampNeg : Int32) = xs (i + 1) from by rw [nI_clamp (by omega)]]
  rw [show (xs (i + 1) : Int32) = x1 from hx1.symm]
  refine lv_aload_n hx hb d_law_1714 rfl (lv_at hl 5 rfl) ?_
  refine lv_iload hx hb d_law_1715 (lv_at hl 1 rfl) ?_
  refine lv_iconst (v := 2) hx hb d_law_1717 (by decide) ?_
  refine lv_iadd hx hb d_law_1718 ?_
  rw [show ((nI i) + 2 : Int32) = nI (i + 2) from nI_add _ 2]
  refine va_sld hx hb hX hbl hbA hS (vp_in_nI (by omega) (by omega)) d_law_1719 ?_
  rw [show (xs (nI (i + 2)).toNatClampNeg : Int32) = xs (i + 2) from by rw [nI_clamp (by omega)]]
  rw [show (xs (i + 2) : Int32) = x2 from hx2.symm]
  have hPc := hP.sub (ws' := (mo_ws m0 e0 (nI 0) (nI 0) (nI 0) (lN 0) (lN 0) (lN 0) (lN 0) (lN 0) (lN 0) 0 a0 a1 a2 a3 a4 a5 a6 a7 a8 a9 mb0 mb1 oc mb2 mb3 mb4 mb5 ++ jw_ws a1 cJ 616 cf)) [23, 31] rfl
  have hDc := hD.sub (ws' := (mo_ws m0 e0 (nI 0) (nI 0) (nI 0) (lN 0) (lN 0) (lN 0) (lN 0) (lN 0) (lN 0) 0 a0 a1 a2 a3 a4 a5 a6 a7 a8 a9 mb0 mb1 oc mb2 mb3 mb4 mb5 ++ jw_ws a1 cJ 616 cf)) [23, 31] (by decide) rfl
  have hKc := hK.sub (tys' := [(cJ, .long), (cI, .int)]) [0, 1] rfl
  have hFc := va_free (wc := (mo_ws m0 e0 (nI 0) (nI 0) (nI 0) (lN 0) (lN 0) (lN 0) (lN 0) (lN 0) (lN 0) 0 a0 a1 a2 a3 a4 a5 a6 a7 a8 a9 mb0 mb1 oc mb2 mb3 mb4 mb5 ++ jw_ws a1 cJ 616 cf)) hD hS hA [23, 31] rfl
  refine va_calll (va_runV (As := [.int x1, .int x2]) (rest := []) ⟨hx, hb, hml, hown, hts⟩ (c_Bm_chain_1 l dC dI cJ cI H.size m0 e0 0 0 0 0 0 0 0 0 0 0 a0 a1 a2 a3 a4 a5 a6 a7 a8 a9 mb0 mb1 oc mb2 mb3 mb4 mb5 cf x1 x2 (Nat.zero_le _) (fun ⟨_, _, _, h, _⟩ => absurd h (by omega))) (cwV 2 hts (gw_V gk_1182 gk_1183 gk_1184 gk_7 gk_1185) rfl rfl rfl (by decide +kernel) ⟨(Nat.le_of_ble_eq_true rfl), (Nat.le_of_ble_eq_true rfl)⟩) ⟨fun a U g mk q => by obtain ⟨q0, q1, qP, qK, qD⟩ := q; exact ⟨q0, q1, qP, va_K.moved (u := U) (U := U.calling g mk a) (Vm.Alike.refl U.vm) qK, qD⟩, va_recv hK hP (ci := 8) (q0 := 23) rfl rfl, fun U hU hW => ⟨rfl, by rw [hU], by rw [hU]; exact hPc, va_K.moved hW.alike hKc, hDc.weaken (fun _ _ _ _ => trivial)⟩⟩ rfl rfl hl.1 rfl (lv_room (Nat.le_of_ble_eq_true rfl)) d_law_1720 ⟨show cells + 8 + 0 ≤ 601024 by omega, show slots + 48 + 0 ≤ 7293034 by omega⟩) hS (fun q _ h => hFc q h) hFc (fun r_2 v9 t9 H1 locs ht hvm hw hB hz1 hk1 hS => ?_)
  obtain ⟨hP1, hK1, hD1⟩ := hB
  rw [ht] at hP1
  obtain ⟨hP, hD⟩ := va_joinQ (X := (jw_ws out cJ 1 of ++ (bb_ws b0 bd0 pr0 t0 au0 da .null ++ (rw_ws da cJ (r8 d0 d1 d2 d3 d4 d5 d6 d7) ++ (bd_ws bd0 h0 ro lo 0 cR (rrf rb) (rrf lb) ++ (pr_ws pr0 h0 cm cJ ccf ++ (ha_ws h0 aw ax ay cJ cI w csc cst cL ++ (tt_ws t0 ka aa ba sa .null cJ tZ ++ (au_ws au0 bd0 pr0 tu0 0 ++ (tt_ws tu0 uka uaa uba usa gu cJ tZ ++ (mo_ws m0 e0 0 0 0 0 0 0 0 0 0 0 a0 a1 a2 a3 a4 a5 a6 a7 a8 a9 mb0 mb1 oc mb2 mb3 mb4 mb5 ++ (iw_ws a7 cI 256 bf ++ (iw_ws a8 cI 64 sc ++ (iw_ws a9 cI 8 st ++ (iw_ws mb0 cI 8 kS ++ (iw_ws mb1 cI 64 kR ++ (jw_ws a2 cJ 4 tf ++ (jw_ws a0 cJ 1232 nf ++ (jw_ws a1 cJ 616 cf ++ (iw_ws a4 cI 4 kf ++ (jw_ws mb2 cJ 4 ky ++ (jw_ws a3 cJ 16 lf ++ (iw_ws a5 cI 4 sf ++ (iw_ws a6 cI 64 vf ++ (jw_ws mb3 cJ 128 md ++ (jw_ws mb4 cJ 4 sh ++ iw_ws mb5 cI 64 ct)))))))))))))))))))))))))) (cx := (mo_ws m0 e0 (nI 0) (nI 0) (nI 0) (lN 0) (lN 0) (lN 0) (lN 0) (lN 0) (lN 0) 0 a0 a1 a2 a3 a4 a5 a6 a7 a8 a9 mb0 mb1 oc mb2 mb3 mb4 mb5 ++ jw_ws a1 cJ 616 cf)) (wr := (jw_ws out cJ 1 of ++ (bb_ws b0 bd0 pr0 t0 au0 da .null ++ (rw_ws da cJ (r8 d0 d1 d2 d3 d4 d5 d6 d7) ++ (bd_ws bd0 h0 ro lo 0 cR (rrf rb) (rrf lb) ++ (pr_ws pr0 h0 cm cJ ccf ++ (ha_ws h0 aw ax ay cJ cI w csc cst cL ++ (tt_ws t0 ka aa ba sa .null cJ tZ ++ (au_ws au0 bd0 pr0 tu0 0 ++ (tt_ws tu0 uka uaa uba usa gu cJ tZ ++ (iw_ws a7 cI 256 bf ++ (iw_ws a8 cI 64 sc ++ (iw_ws a9 cI 8 st ++ (iw_ws mb0 cI 8 kS ++ (iw_ws mb1 cI 64 kR ++ (jw_ws a2 cJ 4 tf ++ (jw_ws a0 cJ 1232 nf ++ (iw_ws a4 cI 4 kf ++ (jw_ws mb2 cJ 4 ky ++ (jw_ws a3 cJ 16 lf ++ (iw_ws a5 cI 4 sf ++ (iw_ws a6 cI 64 vf ++ (jw_ws mb3 cJ 128 md ++ (jw_ws mb4 cJ 4 sh ++ iw_ws mb5 cI 64 ct)))))))))))))))))))))))) (w1 := (mo_ws m0 1 (nI 0) (nI 0) (nI 0) (lN 0) (lN 0) (lN 0) (lN 0) (lN 0) (lN 0) 0 a0 a1 a2 a3 a4 a5 a6 a7 a8 a9 mb0 mb1 oc mb2 mb3 mb4 mb5 ++ jw_ws a1 cJ 616 cf)) (pl := bpool rb lb cJ R Lk) hP hD [23, 31] [0, 1, 2, 3, 4, 5, 6, 7, 8, 9, 10, 11, 12, 13, 14, 15, 16, 17, 18, 19, 20, 21, 22, 24, 25, 26, 27, 28, 29, 30, 32, 33, 34, 35, 36, 37, 38, 39] rfl rfl (by decide) (by decide) hk1 hFc hP1 hD1
  have hP := hP.part (cx := (jw_ws out cJ 1 of ++ (bb_ws b0 bd0 pr0 t0 au0 da .null ++ (rw_ws da cJ (r8 d0 d1 d2 d3 d4 d5 d6 d7) ++ (bd_ws bd0 h0 ro lo 0 cR (rrf rb) (rrf lb) ++ (pr_ws pr0 h0 cm cJ ccf ++ (ha_ws h0 aw ax ay cJ cI w csc cst cL ++ (tt_ws t0 ka aa ba sa .null cJ tZ ++ (au_ws au0 bd0 pr0 tu0 0 ++ (tt_ws tu0 uka uaa uba usa gu cJ tZ ++ (mo_ws m0 1 (nI 0) (nI 0) (nI 0) (lN 0) (lN 0) (lN 0) (lN 0) (lN 0) (lN 0) 0 a0 a1 a2 a3 a4 a5 a6 a7 a8 a9 mb0 mb1 oc mb2 mb3 mb4 mb5 ++ (iw_ws a7 cI 256 bf ++ (iw_ws a8 cI 64 sc ++ (iw_ws a9 cI 8 st ++ (iw_ws mb0 cI 8 kS ++ (iw_ws mb1 cI 64 kR ++ (jw_ws a2 cJ 4 tf ++ (jw_ws a0 cJ 1232 nf ++ (jw_ws a1 cJ 616 cf ++ (iw_ws a4 cI 4 kf ++ (jw_ws mb2 cJ 4 ky ++ (jw_ws a3 cJ 16 lf ++ (iw_ws a5 cI 4 sf ++ (iw_ws a6 cI 64 vf ++ (jw_ws mb3 cJ 128 md ++ (jw_ws mb4 cJ 4 sh ++ iw_ws mb5 cI 64 ct)))))))))))))))))))))))))) [0, 1, 2, 3, 4, 5, 6, 7, 8, 9, 10, 11, 12, 13, 14, 15, 16, 17, 18, 19, 20, 21, 22, 38, 23, 24, 25, 26, 27, 28, 29, 39, 30, 31, 32, 33, 34, 35, 36, 37] rfl
  have hD := hD.part (cx := (jw_ws out cJ 1 of ++ (bb_ws b0 bd0 pr0 t0 au0 da .null ++ (rw_ws da cJ (r8 d0 d1 d2 d3 d4 d5 d6 d7) ++ (bd_ws bd0 h0 ro lo 0 cR (rrf rb) (rrf lb) ++ (pr_ws pr0 h0 cm cJ ccf ++ (ha_ws h0 aw ax ay cJ cI w csc cst cL ++ (tt_ws t0 ka aa ba sa .null cJ tZ ++ (au_ws au0 bd0 pr0 tu0 0 ++ (tt_ws tu0 uka uaa uba usa gu cJ tZ ++ (mo_ws m0 1 (nI 0) (nI 0) (nI 0) (lN 0) (lN 0) (lN 0) (lN 0) (lN 0) (lN 0) 0 a0 a1 a2 a3 a4 a5 a6 a7 a8 a9 mb0 mb1 oc mb2 mb3 mb4 mb5 ++ (iw_ws a7 cI 256 bf ++ (iw_ws a8 cI 64 sc ++ (iw_ws a9 cI 8 st ++ (iw_ws mb0 cI 8 kS ++ (iw_ws mb1 cI 64 kR ++ (jw_ws a2 cJ 4 tf ++ (jw_ws a0 cJ 1232 nf ++ (jw_ws a1 cJ 616 cf ++ (iw_ws a4 cI 4 kf ++ (jw_ws mb2 cJ 4 ky ++ (jw_ws a3 cJ 16 lf ++ (iw_ws a5 cI 4 sf ++ (iw_ws a6 cI 64 vf ++ (jw_ws mb3 cJ 128 md ++ (jw_ws mb4 cJ 4 sh ++ iw_ws mb5 cI 64 ct)))))))))))))))))))))))))) [0, 1, 2, 3, 4, 5, 6, 7, 8, 9, 10, 11, 12, 13, 14, 15, 16, 17, 18, 19, 20, 21, 22, 38, 23, 24, 25, 26, 27, 28, 29, 39, 30, 31, 32, 33, 34, 35, 36, 37] (by decide) rfl
  generalize H1 = H at hP hS ⊢
  clear hPc hDc hFc hP1 hD1 hK1 ht hk1 hz1
  refine lv_lstore (lv' := [(6, .long r_2), (5, .int 1), (4, .int (nI i)), (3, .ref out), (2, .ref m0), (1, .ref b0), (0, .ref b)]) hx hb d_law_1723 hl (by decide) rfl (fun ls hl => ?_)
  refine lv_aload_n hx hb d_law_1725 rfl (lv_at hl 4 rfl) ?_
  have hPc := hP.sub (ws' := (mo_ws m0 1 (nI 0) (nI 0) (nI 0) (lN 0) (lN 0) (lN 0) (lN 0) (lN 0) (lN 0) 0 a0 a1 a2 a3 a4 a5 a6 a7 a8 a9 mb0 mb1 oc mb2 mb3 mb4 mb5)) [23] rfl
  have hKc := hK.sub (tys' := [(cJ, .long), (cI, .int)]) [0, 1] rfl
  refine va_calli (va_runV (As := []) (rest := []) ⟨hx, hb, hml, hown, hts⟩ (c_Bm_thrown l H dC dI cJ cI m0 1 (nI 0) (nI 0) (nI 0) (lN 0) (lN 0) (lN 0) (lN 0) (lN 0) (lN 0) 0 a0 a1 a2 a3 a4 a5 a6 a7 a8 a9 mb0 mb1 oc mb2 mb3 mb4 mb5 hPc) (cwV 0 hts (gw_V gk_1004 gk_1005 gk_1006 gk_7 gk_1007) rfl rfl rfl (by decide +kernel) ⟨(Nat.le_of_ble_eq_true rfl), (Nat.le_of_ble_eq_true rfl)⟩) ⟨fun a U g mk q => ⟨q.1, q.2.1, va_K.moved (u := U) (U := U.calling g mk a) (Vm.Alike.refl U.vm) q.2.2⟩, va_recv hK hP (ci := 8) (q0 := 23) rfl rfl, fun U hU hW => ⟨rfl, hU, va_K.moved hW.alike hKc⟩⟩ rfl rfl hl.1 rfl (lv_room (Nat.le_of_ble_eq_true rfl)) d_law_1726 ⟨show cells + 8 + 0 + 0 ≤ 601024 by omega, show slots + 48 + 0 + 0 ≤ 7293034 by omega⟩) hS (fun q _ h => h.elim) (fun q h => h.elim) (fun r_3 w9 t9 H1 locs ht hvm hw9 hB hz1 hk1 hS => ?_)
  obtain rfl : H = H1 := hB.symm.trans ht
  have hw9 : r_3 = 1 := hw9
  subst hw9
  clear hPc hz1 hk1 hB
  refine lv_iload hx hb d_law_1729 (lv_at hl 1 rfl) ?_
  refine lv_icmp_eq (tgt := 1736) hx hb d_law_1731 (by decide) (fun c_4 => ?_) (fun c_4 => ?_)
  · -- taken
    refine lv_iload hx hb d_law_1736 (lv_at hl 1 rfl) ?_
    refine lv_if_ne (tgt := 1752) hx hb d_law_1738 (by decide) (fun c_5 => ?_) (fun c_5 => ?_)
    · -- taken
      refine lv_goto (tgt := 1965) hx hb d_law_1752 (by decide) ?_
      refine W.widen (k := cells + 20) (n := slots + 200) (by omega) (by omega) ?_
      have hI9 : LI dC dI cJ cI cR A out b0 m0 H := LF.mk hP hD
      exact cont _ _ _ hS hI9 (lv_sub hl [2, 3, 4, 5, 6] rfl)
    · -- not taken
      exact absurd c_5 (by decide)
  · -- not taken
    exact absurd c_4 (by decide)
set_option maxHeartbeats 16000000 in
set_option maxRecDepth 100000 in
theorem bk_spoil_f {p : Program} {l : Launch} {e : Env} {s : State} {m : MethodId} {below : List Frame} {meth : Method} {c : Code} {b L : Nat} {xs : Nat → Int32} {dC : Nat → ClassId} {dI : Nat → Nat → Nat} {cJ cI cR : ClassId} {A : Nat → Prop} {out b0 m0 : Nat} {rA sA wA : Nat} (C : LC p l s m meth c b L xs dC dI cJ cI cR A rA sA wA) {i cells slots : Nat} (hi : i + 14 ≤ L) (hcs : cells + 20 ≤ 601024 ∧ slots + 200 ≤ 7293034) (cont : LK p l e s m below meth c b dC dI cJ cI cR A out b0 m0 i (cells + 20) (slots + 200) 1965) {H : Heap} {locs : List Loc} {ls : Array Slot} (hS : va_S A s.heap H locs) (hI : LF dC dI cJ cI cR A out b0 m0 H) (hl : lv_has ls 8 [(4, .int (nI i)), (3, .ref out), (2, .ref m0), (1, .ref b0), (0, .ref b)]) : W p l e room_1 s m #[Value.ref b] below meth c H locs cells slots (lw_Z below #[Value.ref b] s) (F0 m 1755 ls []) := by
  obtain ⟨hnt, ⟨hx, hb, hr, hml, hown, hts0, hX, hbl, hlocks, hgv⟩, hK, hA, hbA, hZha, hZx, hZn, hZw, hL⟩ := C
  have hown : s.vm.findClass "BallotBoardLaw" = some m.cls := hown
  have hts := lw_hts hts0
  refine hI _ (fun bd0 pr0 t0 au0 da h0 ro lo rb lb cm aw ax ay ka aa ba sa tu0 uka uaa uba usa a0 a1 a2 a3 a4 a5 a6 a7 a8 a9 mb0 mb1 oc mb2 mb3 mb4 mb5 cL of w tf nf cf ky lf md sh ccf csc cst bf sc st kf sf vf ct gu d0 d1 d2 d3 d4 d5 d6 d7 e0 R Lk hP hD => ?_)
  obtain ⟨x1, hx1⟩ : ∃ v, v = xs (i + 1) := ⟨_, rfl⟩
  obtain ⟨x2, hx2⟩ : ∃ v, v = xs (i + 2) := ⟨_, rfl⟩
  obtain ⟨x3, hx3⟩ : ∃ v, v = jl (xs (i + 3)) (xs (i + 4)) := ⟨_, rfl⟩
  refine lv_aload_n hx hb d_law_1755 rfl (lv_at hl 3 rfl) ?_
  refine lv_aload_n hx hb d_law_1756 rfl (lv_at hl 4 rfl) ?_
  refine lv_iload hx hb d_law_1757 (lv_at hl 0 rfl) ?_
  refine lv_iconst (v := 1) hx hb d_law_1759 (by decide) ?_
  refine lv_iadd hx hb d_law_1760 ?_
  rw [show ((nI i) + 1 : Int32) = nI (i + 1) from nI_add _ 1]
  refine va_sld hx hb hX hbl hbA hS (vp_in_nI (by omega) (by omega)) d_law_1761 ?_
  rw [show (xs (nI (i + 1)).toNatClampNeg : Int32) = xs (i + 1) from by rw [nI_clamp (by omega)]]
  rw [show (xs (i + 1) : Int32) = x1 from hx1.symm]
  refine lv_aload_n hx hb d_law_1762 rfl (lv_at hl 4 rfl) ?_
  refine lv_iload hx hb d_law_1763 (lv_at hl 0 rfl) ?_
  refine lv_iconst (v := 2) hx hb d_law_1765 (by decide) ?_
  refine lv_iadd hx hb d_law_1766 ?_
  rw [show ((nI i) + 2 : Int32) = nI (i + 2) from nI_add _ 2]
  refine va_sld hx hb hX hbl hbA hS (vp_in_nI (by omega) (by omega)) d_law_1767 ?_
  rw [show (xs (nI (i + 2)).toNatClampNeg : Int32) = xs (i + 2) from by rw [nI_clamp (by omega)]]
  rw [show (xs (i + 2) : Int32) = x2 from hx2.symm]
  refine lv_aload_n hx hb d_law_1768 rfl (lv_at hl 4 rfl) ?_
  refine lv_iload hx hb d_law_1769 (lv_at hl 0 rfl) ?_
  refine lv_iconst (v := 3) hx hb d_law_1771 (by decide) ?_
  refine lv_iadd hx hb d_law_1772 ?_
  rw [show ((nI i) + 3 : Int32) = nI (i + 3) from nI_add _ 3]
  refine va_sld hx hb hX hbl hbA hS (vp_in_nI (by omega) (by omega)) d_law_1773 ?_
  rw [show (xs (nI (i + 3)).toNatClampNeg : Int32) = xs (i + 3) from by rw [nI_clamp (by omega)]]
  refine lv_i2l (v := (xs (i + 3) : Int32).toInt64) hx hb d_law_1774 rfl ?_
  refine lv_bipush (v := 32) hx hb d_law_1775 (by decide) ?_
  refine lv_lshl (v := ((xs (i + 3) : Int32).toInt64 : Int64) <<< ((32 : Int32).toInt64 &&& 63)) hx hb d_law_1777 rfl ?_
  refine lv_aload_n hx hb d_law_1778 rfl (lv_at hl 4 rfl) ?_
  refine lv_iload hx hb d_law_1779 (lv_at hl 0 rfl) ?_
  refine lv_iconst (v := 4) hx hb d_law_1781 (by decide) ?_
  refine lv_iadd hx hb d_law_1782 ?_
  rw [show ((nI i) + 4 : Int32) = nI (i + 4) from nI_add _ 4]
  refine va_sld hx hb hX hbl hbA hS (vp_in_nI (by omega) (by omega)) d_law_1783 ?_
  rw [show (xs (nI (i + 4)).toNatClampNeg : Int32) = xs (i + 4) from by rw [nI_clamp (by omega)]]
  refine lv_i2l (v := (xs (i + 4) : Int32).toInt64) hx hb d_law_1784 rfl ?_
  refine lv_ldc2 (v := 4294967295) hx hb hown (hts _ (List.mem_cons_of_mem _ gk_1202)) d_law_1785 ?_
  refine lv_land hx hb d_law_1788 ?_
  refine lv_lor hx hb d_law_1789 ?_
  rw [show ((((xs (i + 3) : Int32).toInt64 : Int64) <<< ((32 : Int32).toInt64 &&& 63)) ||| (((xs (i + 4) : Int32).toInt64) &&& 4294967295) : Int64) = x3 from hx3.symm]
  refine lv_aload_n hx hb d_law_1790 rfl (lv_at hl 1 rfl) ?_
  have hPc := hP.part (cx := (jw_ws out cJ 1 of ++ (bb_ws b0 bd0 pr0 t0 au0 da .null ++ (bd_ws bd0 h0 ro lo 0 cR (rrf rb) (rrf lb) ++ au_ws au0 bd0 pr0 tu0 0)))) [0, 1, 3, 4, 5, 17] rfl
  have hDc := hD.part (cx := (jw_ws out cJ 1 of ++ (bb_ws b0 bd0 pr0 t0 au0 da .null ++ (bd_ws bd0 h0 ro lo 0 cR (rrf rb) (rrf lb) ++ au_ws au0 bd0 pr0 tu0 0)))) [0, 1, 3, 4, 5, 17] (by decide) rfl
  have hKc := hK.sub (tys' := [(cJ, .long), (cI, .int), (cR, .array .long)]) [0, 1, 2] rfl
  have hFc := va_freeP (cx := (jw_ws out cJ 1 of ++ (bb_ws b0 bd0 pr0 t0 au0 da .null ++ (bd_ws bd0 h0 ro lo 0 cR (rrf rb) (rrf lb) ++ au_ws au0 bd0 pr0 tu0 0)))) hD hS hA [0, 1, 3, 4, 5, 17] rfl
  have hZc0 : xz (va_A ((jw_ws out cJ 1 of ++ (bb_ws b0 bd0 pr0 t0 au0 da .null ++ (bd_ws bd0 h0 ro lo 0 cR (rrf rb) (rrf lb) ++ au_ws au0 bd0 pr0 tu0 0))) ++ bpool rb lb cJ R Lk) H.size) s H := (hZx.kept hS.2.1).narrow hFc
  have hZc1 : nc_Z s := hZn
  refine vx_calli (vx_runSX (hh := h_Lw_spoil) (As := [.ref b0, .int x1, .int x2, .long x3, .ref out]) (rest := []) ⟨hx, hb, hml, hown, hts⟩ (c_Lw_spoil_1 l hnt dC dI cJ cI cR H.size b0 bd0 pr0 t0 au0 da .null tu0 0 h0 ro lo 0 rb lb 0 (fun _ => 0) (fun _ => 0) R Lk x1 x2 x3 out of (⟨by omega, fun i h => absurd h (by omega), fun h => absurd h (by omega)⟩) (Nat.zero_le _) (fun ⟨_, _, _, h, _⟩ => absurd h (by omega))) (vx_cwSW 5 hts (gw_Sv gk_779 gk_780 gk_0 gk_781) rfl rfl rfl (by decide +kernel) ⟨(Nat.le_of_ble_eq_true rfl), (Nat.le_of_ble_eq_true rfl)⟩) ⟨fun a U g mk q => by obtain ⟨q0, q1, qP, qK, qD, qZ0, qZ1⟩ := q; exact ⟨q0, q1, qP, va_K.moved (u := U) (U := U.calling g mk a) (Vm.Alike.refl U.vm) qK, qD, xz.same (u := U) (U := U.calling g mk a) rfl qZ0, nc_Z.moved (u := U) (U := U.calling g mk a) (Vm.Alike.refl U.vm) qZ1⟩, fun U hU hW => ⟨rfl, by rw [hU], by rw [hU]; exact hPc, va_K.moved hW.alike hKc, hDc.weaken (fun _ _ _ _ => trivial), by rw [hU]; exact xz.warm hW hZc0, nc_Z.moved hW.alike hZc1⟩⟩ rfl rfl hl.1 rfl (lv_room (Nat.le_of_ble_eq_true rfl)) d_law_1791 ⟨show cells + 8 ≤ 601024 by omega, show slots + 48 ≤ 7293034 by omega⟩) hS (fun q _ h => hFc q h) hFc (fun q _ h => hFc q h) (fun E9 ce9 q9 u8 t9 H1 locs ht hvm hpx hbx hz1 hk1 hS hce hcv hcl => hpx.elim) (fun r_1 u9 t9 H1 locs ht hvm hw hB hz1 hk1 hS => ?_)
  obtain ⟨hP1, hK1, hD1⟩ := hB
  rw [ht] at hP1
  obtain ⟨hP, hD⟩ := va_joinP (X := (jw_ws out cJ 1 of ++ (bb_ws b0 bd0 pr0 t0 au0 da .null ++ (rw_ws da cJ (r8 d0 d1 d2 d3 d4 d5 d6 d7) ++ (bd_ws bd0 h0 ro lo 0 cR (rrf rb) (rrf lb) ++ (pr_ws pr0 h0 cm cJ ccf ++ (ha_ws h0 aw ax ay cJ cI w csc cst cL ++ (tt_ws t0 ka aa ba sa .null cJ tZ ++ (au_ws au0 bd0 pr0 tu0 0 ++ (tt_ws tu0 uka uaa uba usa gu cJ tZ ++ (mo_ws m0 e0 0 0 0 0 0 0 0 0 0 0 a0 a1 a2 a3 a4 a5 a6 a7 a8 a9 mb0 mb1 oc mb2 mb3 mb4 mb5 ++ (iw_ws a7 cI 256 bf ++ (iw_ws a8 cI 64 sc ++ (iw_ws a9 cI 8 st ++ (iw_ws mb0 cI 8 kS ++ (iw_ws mb1 cI 64 kR ++ (jw_ws a2 cJ 4 tf ++ (jw_ws a0 cJ 1232 nf ++ (jw_ws a1 cJ 616 cf ++ (iw_ws a4 cI 4 kf ++ (jw_ws mb2 cJ 4 ky ++ (jw_ws a3 cJ 16 lf ++ (iw_ws a5 cI 4 sf ++ (iw_ws a6 cI 64 vf ++ (jw_ws mb3 cJ 128 md ++ (jw_ws mb4 cJ 4 sh ++ iw_ws mb5 cI 64 ct)))))))))))))))))))))))))) (cx := (jw_ws out cJ 1 of ++ (bb_ws b0 bd0 pr0 t0 au0 da .null ++ (bd_ws bd0 h0 ro lo 0 cR (rrf rb) (rrf lb) ++ au_ws au0 bd0 pr0 tu0 0)))) (wr := (rw_ws da cJ (r8 d0 d1 d2 d3 d4 d5 d6 d7) ++ (pr_ws pr0 h0 cm cJ ccf ++ (ha_ws h0 aw ax ay cJ cI w csc cst cL ++ (tt_ws t0 ka aa ba sa .null cJ tZ ++ (tt_ws tu0 uka uaa uba usa gu cJ tZ ++ (mo_ws m0 e0 0 0 0 0 0 0 0 0 0 0 a0 a1 a2 a3 a4 a5 a6 a7 a8 a9 mb0 mb1 oc mb2 mb3 mb4 mb5 ++ (iw_ws a7 cI 256 bf ++ (iw_ws a8 cI 64 sc ++ (iw_ws a9 cI 8 st ++ (iw_ws mb0 cI 8 kS ++ (iw_ws mb1 cI 64 kR ++ (jw_ws a2 cJ 4 tf ++ (jw_ws a0 cJ 1232 nf ++ (jw_ws a1 cJ 616 cf ++ (iw_ws a4 cI 4 kf ++ (jw_ws mb2 cJ 4 ky ++ (jw_ws a3 cJ 16 lf ++ (iw_ws a5 cI 4 sf ++ (iw_ws a6 cI 64 vf ++ (jw_ws mb3 cJ 128 md ++ (jw_ws mb4 cJ 4 sh ++ iw_ws mb5 cI 64 ct)))))))))))))))))))))) (rx := (jw_ws out cJ 1 of ++ (bb_ws b0 bd0 pr0 t0 au0 da .null ++ (bd_ws bd0 h0 ro lo 0 cR (rrf rb) (rrf lb) ++ au_ws au0 bd0 pr0 tu0 0)))) (pl := bpool rb lb cJ R Lk) (pl1 := bpool rb lb cJ R Lk) hP hD [0, 1, 3, 4, 5, 17] [2, 6, 7, 8, 9, 10, 11, 12, 13, 14, 15, 16, 18, 19, 20, 21, 22, 23, 24, 25, 26, 27, 28, 29, 30, 31, 32, 33, 34, 35, 36, 37, 38, 39] rfl rfl (by decide) (by decide) hk1 hFc hP1 hD1
  have hP := hP.part (cx := (jw_ws out cJ 1 of ++ (bb_ws b0 bd0 pr0 t0 au0 da .null ++ (rw_ws da cJ (r8 d0 d1 d2 d3 d4 d5 d6 d7) ++ (bd_ws bd0 h0 ro lo 0 cR (rrf rb) (rrf lb) ++ (pr_ws pr0 h0 cm cJ ccf ++ (ha_ws h0 aw ax ay cJ cI w csc cst cL ++ (tt_ws t0 ka aa ba sa .null cJ tZ ++ (au_ws au0 bd0 pr0 tu0 0 ++ (tt_ws tu0 uka uaa uba usa gu cJ tZ ++ (mo_ws m0 e0 0 0 0 0 0 0 0 0 0 0 a0 a1 a2 a3 a4 a5 a6 a7 a8 a9 mb0 mb1 oc mb2 mb3 mb4 mb5 ++ (iw_ws a7 cI 256 bf ++ (iw_ws a8 cI 64 sc ++ (iw_ws a9 cI 8 st ++ (iw_ws mb0 cI 8 kS ++ (iw_ws mb1 cI 64 kR ++ (jw_ws a2 cJ 4 tf ++ (jw_ws a0 cJ 1232 nf ++ (jw_ws a1 cJ 616 cf ++ (iw_ws a4 cI 4 kf ++ (jw_ws mb2 cJ 4 ky ++ (jw_ws a3 cJ 16 lf ++ (iw_ws a5 cI 4 sf ++ (iw_ws a6 cI 64 vf ++ (jw_ws mb3 cJ 128 md ++ (jw_ws mb4 cJ 4 sh ++ iw_ws mb5 cI 64 ct)))))))))))))))))))))))))) [34, 35, 0, 36, 37, 38, 1, 2, 3, 4, 5, 6, 7, 8, 9, 10, 11, 39, 12, 13, 14, 15, 16, 17, 18, 19, 20, 21, 22, 23, 24, 25, 26, 27, 28, 29, 30, 31, 32, 33] rfl
  have hD := hD.part (cx := (jw_ws out cJ 1 of ++ (bb_ws b0 bd0 pr0 t0 au0 da .null ++ (rw_ws da cJ (r8 d0 d1 d2 d3 d4 d5 d6 d7) ++ (bd_ws bd0 h0 ro lo 0 cR (rrf rb) (rrf lb) ++ (pr_ws pr0 h0 cm cJ ccf ++ (ha_ws h0 aw ax ay cJ cI w csc cst cL ++ (tt_ws t0 ka aa ba sa .null cJ tZ ++ (au_ws au0 bd0 pr0 tu0 0 ++ (tt_ws tu0 uka uaa uba usa gu cJ tZ ++ (mo_ws m0 e0 0 0 0 0 0 0 0 0 0 0 a0 a1 a2 a3 a4 a5 a6 a7 a8 a9 mb0 mb1 oc mb2 mb3 mb4 mb5 ++ (iw_ws a7 cI 256 bf ++ (iw_ws a8 cI 64 sc ++ (iw_ws a9 cI 8 st ++ (iw_ws mb0 cI 8 kS ++ (iw_ws mb1 cI 64 kR ++ (jw_ws a2 cJ 4 tf ++ (jw_ws a0 cJ 1232 nf ++ (jw_ws a1 cJ 616 cf ++ (iw_ws a4 cI 4 kf ++ (jw_ws mb2 cJ 4 ky ++ (jw_ws a3 cJ 16 lf ++ (iw_ws a5 cI 4 sf ++ (iw_ws a6 cI 64 vf ++ (jw_ws mb3 cJ 128 md ++ (jw_ws mb4 cJ 4 sh ++ iw_ws mb5 cI 64 ct)))))))))))))))))))))))))) [34, 35, 0, 36, 37, 38, 1, 2, 3, 4, 5, 6, 7, 8, 9, 10, 11, 39, 12, 13, 14, 15, 16, 17, 18, 19, 20, 21, 22, 23, 24, 25, 26, 27, 28, 29, 30, 31, 32, 33] (by decide) rfl
  generalize H1 = H at hP hS ⊢
  clear hPc hDc hFc hP1 hD1 hK1 ht hk1 hz1
  have hr9 : r_1 = 1 := hw
  subst hr9
  refine lv_istore (lv' := [(5, .int 1), (4, .int (nI i)), (3, .ref out), (2, .ref m0), (1, .ref b0), (0, .ref b)]) hx hb d_law_1794 hl (by decide) rfl (fun ls hl => ?_)
  refine lv_aload_n hx hb d_law_1796 rfl (lv_at hl 3 rfl) ?_
  refine lv_aload_n hx hb d_law_1797 rfl (lv_at hl 5 rfl) ?_
  refine lv_iload hx hb d_law_1798 (lv_at hl 1 rfl) ?_
  refine lv_iconst (v := 1) hx hb d_law_1800 (by decide) ?_
  refine lv_iadd hx hb d_law_1801 ?_
  rw [show ((nI i) + 1 : Int32) = nI (i + 1) from nI_add _ 1]
  refine va_sld hx hb hX hbl hbA hS (vp_in_nI (by omega) (by omega)) d_law_1802 ?_
  rw [show (xs (nI (i + 1)).toNatClampNeg : Int32) = xs (i + 1) from by rw [nI_clamp (by omega)]]
  rw [show (xs (i + 1) : Int32) = x1 from hx1.symm]
  refine lv_aload_n hx hb d_law_1803 rfl (lv_at hl 5 rfl) ?_
  refine lv_iload hx hb d_law_1804 (lv_at hl 1 rfl) ?_
  refine lv_iconst (v := 2) hx hb d_law_1806 (by decide) ?_
  refine lv_iadd hx hb d_law_1807 ?_
  rw [show ((nI i) + 2 : Int32) = nI (i + 2) from nI_add _ 2]
  refine va_sld hx hb hX hbl hbA hS (vp_in_nI (by omega) (by omega)) d_law_1808 ?_
  rw [show (xs (nI (i + 2)).toNatClampNeg : Int32) = xs (i + 2) from by rw [nI_clamp (by omega)]]
  rw [show (xs (i + 2) : Int32) = x2 from hx2.symm]
  refine lv_aload_n hx hb d_law_1809 rfl (lv_at hl 5 rfl) ?_
  refine lv_iload hx hb d_law_1810 (lv_at hl 1 rfl) ?_
  refine lv_iconst (v := 3) hx hb d_law_1812 (by decide) ?_
  refine lv_iadd hx hb d_law_1813 ?_
  rw [show ((nI i) + 3 : Int32) = nI (i + 3) from nI_add _ 3]
  refine va_sld hx hb hX hbl hbA hS (vp_in_nI (by omega) (by omega)) d_law_1814 ?_
  rw [show (xs (nI (i + 3)).toNatClampNeg : Int32) = xs (i + 3) from by rw [nI_clamp (by omega)]]
  refine lv_i2l (v := (xs (i + 3) : Int32).toInt64) hx hb d_law_1815 rfl ?_
  refine lv_bipush (v := 32) hx hb d_law_1816 (by decide) ?_
  refine lv_lshl (v := ((xs (i + 3) : Int32).toInt64 : Int64) <<< ((32 : Int32).toInt64 &&& 63)) hx hb d_law_1818 rfl ?_
  refine lv_aload_n hx hb d_law_1819 rfl (lv_at hl 5 rfl) ?_
  refine lv_iload hx hb d_law_1820 (lv_at hl 1 rfl) ?_
  refine lv_iconst (v := 4) hx hb d_law_1822 (by decide) ?_
  refine lv_iadd hx hb d_law_1823 ?_
  rw [show ((nI i) + 4 : Int32) = nI (i + 4) from nI_add _ 4]
  refine va_sld hx hb hX hbl hbA hS (vp_in_nI (by omega) (by omega)) d_law_1824 ?_
  rw [show (xs (nI (i + 4)).toNatClampNeg : Int32) = xs (i + 4) from by rw [nI_clamp (by omega)]]
  refine lv_i2l (v := (xs (i + 4) : Int32).toInt64) hx hb d_law_1825 rfl ?_
  refine lv_ldc2 (v := 4294967295) hx hb hown (hts _ (List.mem_cons_of_mem _ gk_1202)) d_law_1826 ?_
  refine lv_land hx hb d_law_1829 ?_
  refine lv_lor hx hb d_law_1830 ?_
  rw [show ((((xs (i + 3) : Int32).toInt64 : Int64) <<< ((32 : Int32).toInt64 &&& 63)) ||| (((xs (i + 4) : Int32).toInt64) &&& 4294967295) : Int64) = x3 from hx3.symm]
  have hPc := hP.sub (ws' := (mo_ws m0 e0 (nI 0) (nI 0) (nI 0) (lN 0) (lN 0) (lN 0) (lN 0) (lN 0) (lN 0) 0 a0 a1 a2 a3 a4 a5 a6 a7 a8 a9 mb0 mb1 oc mb2 mb3 mb4 mb5 ++ jw_ws a0 cJ 1232 nf)) [23, 30] rfl
  have hDc := hD.sub (ws' := (mo_ws m0 e0 (nI 0) (nI 0) (nI 0) (lN 0) (lN 0) (lN 0) (lN 0) (lN 0) (lN 0) 0 a0 a1 a2 a3 a4 a5 a6 a7 a8 a9 mb0 mb1 oc mb2 mb3 mb4 mb5 ++ jw_ws a0 cJ 1232 nf)) [23, 30] (by decide) rfl
  have hKc := hK.sub (tys' := [(cJ, .long), (cI, .int)]) [0, 1] rfl
  have hFc := va_free (wc := (mo_ws m0 e0 (nI 0) (nI 0) (nI 0) (lN 0) (lN 0) (lN 0) (lN 0) (lN 0) (lN 0) 0 a0 a1 a2 a3 a4 a5 a6 a7 a8 a9 mb0 mb1 oc mb2 mb3 mb4 mb5 ++ jw_ws a0 cJ 1232 nf)) hD hS hA [23, 30] rfl
  refine va_calll (va_runV (As := [.int x1, .int x2, .long x3]) (rest := []) ⟨hx, hb, hml, hown, hts⟩ (c_Bm_spoil_1 l dC dI cJ cI H.size m0 e0 0 0 0 0 0 0 0 0 0 0 a0 a1 a2 a3 a4 a5 a6 a7 a8 a9 mb0 mb1 oc mb2 mb3 mb4 mb5 nf (fun _ => 0) x1 x2 x3 (Nat.zero_le _) (fun k h => absurd h (by omega)) (fun ⟨_, _, _, h, _⟩ => absurd h (by omega))) (cwV 3 hts (gw_V gk_1186 gk_1187 gk_1188 gk_7 gk_1189) rfl rfl rfl (by decide +kernel) ⟨(Nat.le_of_ble_eq_true rfl), (Nat.le_of_ble_eq_true rfl)⟩) ⟨fun a U g mk q => by obtain ⟨q0, q1, qP, qK, qD⟩ := q; exact ⟨q0, q1, qP, va_K.moved (u := U) (U := U.calling g mk a) (Vm.Alike.refl U.vm) qK, qD⟩, va_recv hK hP (ci := 8) (q0 := 23) rfl rfl, fun U hU hW => ⟨rfl, by rw [hU], by rw [hU]; exact hPc, va_K.moved hW.alike hKc, hDc.weaken (fun _ _ _ _ => trivial)⟩⟩ rfl rfl hl.1 rfl (lv_room (Nat.le_of_ble_eq_true rfl)) d_law_1831 ⟨show cells + 8 + 0 ≤ 601024 by omega, show slots + 48 + 0 ≤ 7293034 by omega⟩) hS (fun q _ h => hFc q h) hFc (fun r_2 v9 t9 H1 locs ht hvm hw hB hz1 hk1 hS => ?_)
  obtain ⟨hP1, hK1, hD1⟩ := hB
  rw [ht] at hP1
  obtain ⟨hP, hD⟩ := va_joinQ (X := (jw_ws out cJ 1 of ++ (bb_ws b0 bd0 pr0 t0 au0 da .null ++ (rw_ws da cJ (r8 d0 d1 d2 d3 d4 d5 d6 d7) ++ (bd_ws bd0 h0 ro lo 0 cR (rrf rb) (rrf lb) ++ (pr_ws pr0 h0 cm cJ ccf ++ (ha_ws h0 aw ax ay cJ cI w csc cst cL ++ (tt_ws t0 ka aa ba sa .null cJ tZ ++ (au_ws au0 bd0 pr0 tu0 0 ++ (tt_ws tu0 uka uaa uba usa gu cJ tZ ++ (mo_ws m0 e0 0 0 0 0 0 0 0 0 0 0 a0 a1 a2 a3 a4 a5 a6 a7 a8 a9 mb0 mb1 oc mb2 mb3 mb4 mb5 ++ (iw_ws a7 cI 256 bf ++ (iw_ws a8 cI 64 sc ++ (iw_ws a9 cI 8 st ++ (iw_ws mb0 cI 8 kS ++ (iw_ws mb1 cI 64 kR ++ (jw_ws a2 cJ 4 tf ++ (jw_ws a0 cJ 1232 nf ++ (jw_ws a1 cJ 616 cf ++ (iw_ws a4 cI 4 kf ++ (jw_ws mb2 cJ 4 ky ++ (jw_ws a3 cJ 16 lf ++ (iw_ws a5 cI 4 sf ++ (iw_ws a6 cI 64 vf ++ (jw_ws mb3 cJ 128 md ++ (jw_ws mb4 cJ 4 sh ++ iw_ws mb5 cI 64 ct)))))))))))))))))))))))))) (cx := (mo_ws m0 e0 (nI 0) (nI 0) (nI 0) (lN 0) (lN 0) (lN 0) (lN 0) (lN 0) (lN 0) 0 a0 a1 a2 a3 a4 a5 a6 a7 a8 a9 mb0 mb1 oc mb2 mb3 mb4 mb5 ++ jw_ws a0 cJ 1232 nf)) (wr := (jw_ws out cJ 1 of ++ (bb_ws b0 bd0 pr0 t0 au0 da .null ++ (rw_ws da cJ (r8 d0 d1 d2 d3 d4 d5 d6 d7) ++ (bd_ws bd0 h0 ro lo 0 cR (rrf rb) (rrf lb) ++ (pr_ws pr0 h0 cm cJ ccf ++ (ha_ws h0 aw ax ay cJ cI w csc cst cL ++ (tt_ws t0 ka aa ba sa .null cJ tZ ++ (au_ws au0 bd0 pr0 tu0 0 ++ (tt_ws tu0 uka uaa uba usa gu cJ tZ ++ (iw_ws a7 cI 256 bf ++ (iw_ws a8 cI 64 sc ++ (iw_ws a9 cI 8 st ++ (iw_ws mb0 cI 8 kS ++ (iw_ws mb1 cI 64 kR ++ (jw_ws a2 cJ 4 tf ++ (jw_ws a1 cJ 616 cf ++ (iw_ws a4 cI 4 kf ++ (jw_ws mb2 cJ 4 ky ++ (jw_ws a3 cJ 16 lf ++ (iw_ws a5 cI 4 sf ++ (iw_ws a6 cI 64 vf ++ (jw_ws mb3 cJ 128 md ++ (jw_ws mb4 cJ 4 sh ++ iw_ws mb5 cI 64 ct)))))))))))))))))))))))) (w1 := (mo_ws m0 1 (nI 0) (nI 0) (nI 0) (lN 0) (lN 0) (lN 0) (lN 0) (lN 0) (lN 0) 0 a0 a1 a2 a3 a4 a5 a6 a7 a8 a9 mb0 mb1 oc mb2 mb3 mb4 mb5 ++ jw_ws a0 cJ 1232 nf)) (pl := bpool rb lb cJ R Lk) hP hD [23, 30] [0, 1, 2, 3, 4, 5, 6, 7, 8, 9, 10, 11, 12, 13, 14, 15, 16, 17, 18, 19, 20, 21, 22, 24, 25, 26, 27, 28, 29, 31, 32, 33, 34, 35, 36, 37, 38, 39] rfl rfl (by decide) (by decide) hk1 hFc hP1 hD1
  have hP := hP.part (cx := (jw_ws out cJ 1 of ++ (bb_ws b0 bd0 pr0 t0 au0 da .null ++ (rw_ws da cJ (r8 d0 d1 d2 d3 d4 d5 d6 d7) ++ (bd_ws bd0 h0 ro lo 0 cR (rrf rb) (rrf lb) ++ (pr_ws pr0 h0 cm cJ ccf ++ (ha_ws h0 aw ax ay cJ cI w csc cst cL ++ (tt_ws t0 ka aa ba sa .null cJ tZ ++ (au_ws au0 bd0 pr0 tu0 0 ++ (tt_ws tu0 uka uaa uba usa gu cJ tZ ++ (mo_ws m0 1 (nI 0) (nI 0) (nI 0) (lN 0) (lN 0) (lN 0) (lN 0) (lN 0) (lN 0) 0 a0 a1 a2 a3 a4 a5 a6 a7 a8 a9 mb0 mb1 oc mb2 mb3 mb4 mb5 ++ (iw_ws a7 cI 256 bf ++ (iw_ws a8 cI 64 sc ++ (iw_ws a9 cI 8 st ++ (iw_ws mb0 cI 8 kS ++ (iw_ws mb1 cI 64 kR ++ (jw_ws a2 cJ 4 tf ++ (jw_ws a0 cJ 1232 nf ++ (jw_ws a1 cJ 616 cf ++ (iw_ws a4 cI 4 kf ++ (jw_ws mb2 cJ 4 ky ++ (jw_ws a3 cJ 16 lf ++ (iw_ws a5 cI 4 sf ++ (iw_ws a6 cI 64 vf ++ (jw_ws mb3 cJ 128 md ++ (jw_ws mb4 cJ 4 sh ++ iw_ws mb5 cI 64 ct)))))))))))))))))))))))))) [0, 1, 2, 3, 4, 5, 6, 7, 8, 9, 10, 11, 12, 13, 14, 15, 16, 17, 18, 19, 20, 21, 22, 38, 23, 24, 25, 26, 27, 28, 39, 29, 30, 31, 32, 33, 34, 35, 36, 37] rfl
  have hD := hD.part (cx := (jw_ws out cJ 1 of ++ (bb_ws b0 bd0 pr0 t0 au0 da .null ++ (rw_ws da cJ (r8 d0 d1 d2 d3 d4 d5 d6 d7) ++ (bd_ws bd0 h0 ro lo 0 cR (rrf rb) (rrf lb) ++ (pr_ws pr0 h0 cm cJ ccf ++ (ha_ws h0 aw ax ay cJ cI w csc cst cL ++ (tt_ws t0 ka aa ba sa .null cJ tZ ++ (au_ws au0 bd0 pr0 tu0 0 ++ (tt_ws tu0 uka uaa uba usa gu cJ tZ ++ (mo_ws m0 1 (nI 0) (nI 0) (nI 0) (lN 0) (lN 0) (lN 0) (lN 0) (lN 0) (lN 0) 0 a0 a1 a2 a3 a4 a5 a6 a7 a8 a9 mb0 mb1 oc mb2 mb3 mb4 mb5 ++ (iw_ws a7 cI 256 bf ++ (iw_ws a8 cI 64 sc ++ (iw_ws a9 cI 8 st ++ (iw_ws mb0 cI 8 kS ++ (iw_ws mb1 cI 64 kR ++ (jw_ws a2 cJ 4 tf ++ (jw_ws a0 cJ 1232 nf ++ (jw_ws a1 cJ 616 cf ++ (iw_ws a4 cI 4 kf ++ (jw_ws mb2 cJ 4 ky ++ (jw_ws a3 cJ 16 lf ++ (iw_ws a5 cI 4 sf ++ (iw_ws a6 cI 64 vf ++ (jw_ws mb3 cJ 128 md ++ (jw_ws mb4 cJ 4 sh ++ iw_ws mb5 cI 64 ct)))))))))))))))))))))))))) [0, 1, 2, 3, 4, 5, 6, 7, 8, 9, 10, 11, 12, 13, 14, 15, 16, 17, 18, 19, 20, 21, 22, 38, 23, 24, 25, 26, 27, 28, 39, 29, 30, 31, 32, 33, 34, 35, 36, 37] (by decide) rfl
  generalize H1 = H at hP hS ⊢
  clear hPc hDc hFc hP1 hD1 hK1 ht hk1 hz1
  refine lv_lstore (lv' := [(6, .long r_2), (5, .int 1), (4, .int (nI i)), (3, .ref out), (2, .ref m0), (1, .ref b0), (0, .ref b)]) hx hb d_law_1834 hl (by decide) rfl (fun ls hl => ?_)
  refine lv_aload_n hx hb d_law_1836 rfl (lv_at hl 4 rfl) ?_
  have hPc := hP.sub (ws' := (mo_ws m0 1 (nI 0) (nI 0) (nI 0) (lN 0) (lN 0) (lN 0) (lN 0) (lN 0) (lN 0) 0 a0 a1 a2 a3 a4 a5 a6 a7 a8 a9 mb0 mb1 oc mb2 mb3 mb4 mb5)) [23] rfl
  have hKc := hK.sub (tys' := [(cJ, .long), (cI, .int)]) [0, 1] rfl
  refine va_calli (va_runV (As := []) (rest := []) ⟨hx, hb, hml, hown, hts⟩ (c_Bm_thrown l H dC dI cJ cI m0 1 (nI 0) (nI 0) (nI 0) (lN 0) (lN 0) (lN 0) (lN 0) (lN 0) (lN 0) 0 a0 a1 a2 a3 a4 a5 a6 a7 a8 a9 mb0 mb1 oc mb2 mb3 mb4 mb5 hPc) (cwV 0 hts (gw_V gk_1004 gk_1005 gk_1006 gk_7 gk_1007) rfl rfl rfl (by decide +kernel) ⟨(Nat.le_of_ble_eq_true rfl), (Nat.le_of_ble_eq_true rfl)⟩) ⟨fun a U g mk q => ⟨q.1, q.2.1, va_K.moved (u := U) (U := U.calling g mk a) (Vm.Alike.refl U.vm) q.2.2⟩, va_recv hK hP (ci := 8) (q0 := 23) rfl rfl, fun U hU hW => ⟨rfl, hU, va_K.moved hW.alike hKc⟩⟩ rfl rfl hl.1 rfl (lv_room (Nat.le_of_ble_eq_true rfl)) d_law_1837 ⟨show cells + 8 + 0 + 0 ≤ 601024 by omega, show slots + 48 + 0 + 0 ≤ 7293034 by omega⟩) hS (fun q _ h => h.elim) (fun q h => h.elim) (fun r_3 w9 t9 H1 locs ht hvm hw9 hB hz1 hk1 hS => ?_)
  obtain rfl : H = H1 := hB.symm.trans ht
  have hw9 : r_3 = 1 := hw9
  subst hw9
  clear hPc hz1 hk1 hB
  refine lv_iload hx hb d_law_1840 (lv_at hl 1 rfl) ?_
  refine lv_icmp_eq (tgt := 1847) hx hb d_law_1842 (by decide) (fun c_4 => ?_) (fun c_4 => ?_)
  · -- taken
    refine lv_iload hx hb d_law_1847 (lv_at hl 1 rfl) ?_
    refine lv_if_ne (tgt := 1863) hx hb d_law_1849 (by decide) (fun c_5 => ?_) (fun c_5 => ?_)
    · -- taken
      refine lv_goto (tgt := 1965) hx hb d_law_1863 (by decide) ?_
      refine W.widen (k := cells + 20) (n := slots + 200) (by omega) (by omega) ?_
      have hI9 : LI dC dI cJ cI cR A out b0 m0 H := LF.mk hP hD
      exact cont _ _ _ hS hI9 (lv_sub hl [2, 3, 4, 5, 6] rfl)
    · -- not taken
      exact absurd c_5 (by decide)
  · -- not taken
    exact absurd c_4 (by decide)
set_option maxHeartbeats 16000000 in
set_option maxRecDepth 100000 in
theorem bk_count_f {p : Program} {l : Launch} {e : Env} {s : State} {m : MethodId} {below : List Frame} {meth : Method} {c : Code} {b L : Nat} {xs : Nat → Int32} {dC : Nat → ClassId} {dI : Nat → Nat → Nat} {cJ cI cR : ClassId} {A : Nat → Prop} {out b0 m0 : Nat} {rA sA wA : Nat} (C : LC p l s m meth c b L xs dC dI cJ cI cR A rA sA wA) {i cells slots : Nat} (hi : i + 14 ≤ L) (hcs : cells + 20 ≤ 601024 ∧ slots + 200 ≤ 7293034) (cont : LK p l e s m below meth c b dC dI cJ cI cR A out b0 m0 i (cells + 20) (slots + 200) 1965) {H : Heap} {locs : List Loc} {ls : Array Slot} (hS : va_S A s.heap H locs) (hI : LF dC dI cJ cI cR A out b0 m0 H) (hl : lv_has ls 8 [(4, .int (nI i)), (3, .ref out), (2, .ref m0), (1, .ref b0), (0, .ref b)]) : W p l e room_1 s m #[Value.ref b] below meth c H locs cells slots (lw_Z below #[Value.ref b] s) (F0 m 1910 ls []) := by
  obtain ⟨hnt, ⟨hx, hb, hr, hml, hown, hts0, hX, hbl, hlocks, hgv⟩, hK, hA, hbA, hZha, hZx, hZn, hZw, hL⟩ := C
  have hown : s.vm.findClass "BallotBoardLaw" = some m.cls := hown
  have hts := lw_hts hts0
  refine hI _ (fun bd0 pr0 t0 au0 da h0 ro lo rb lb cm aw ax ay ka aa ba sa tu0 uka uaa uba usa a0 a1 a2 a3 a4 a5 a6 a7 a8 a9 mb0 mb1 oc mb2 mb3 mb4 mb5 cL of w tf nf cf ky lf md sh ccf csc cst bf sc st kf sf vf ct gu d0 d1 d2 d3 d4 d5 d6 d7 e0 R Lk hP hD => ?_)
  obtain ⟨x1, hx1⟩ : ∃ v, v = xs (i + 1) := ⟨_, rfl⟩
  by_cases hC : inN x1 11
  · -- it holds
    refine lv_aload_n hx hb d_law_1910 rfl (lv_at hl 3 rfl) ?_
    refine lv_aload_n hx hb d_law_1911 rfl (lv_at hl 4 rfl) ?_
    refine lv_iload hx hb d_law_1912 (lv_at hl 0 rfl) ?_
    refine lv_iconst (v := 1) hx hb d_law_1914 (by decide) ?_
    refine lv_iadd hx hb d_law_1915 ?_
    rw [show ((nI i) + 1 : Int32) = nI (i + 1) from nI_add _ 1]
    refine va_sld hx hb hX hbl hbA hS (vp_in_nI (by omega) (by omega)) d_law_1916 ?_
    rw [show (xs (nI (i + 1)).toNatClampNeg : Int32) = xs (i + 1) from by rw [nI_clamp (by omega)]]
    rw [show (xs (i + 1) : Int32) = x1 from hx1.symm]
    refine lv_aload_n hx hb d_law_1917 rfl (lv_at hl 1 rfl) ?_
    have hPc := hP.sub (ws' := (jw_ws out cJ 1 of ++ (bb_ws b0 bd0 pr0 t0 au0 da .null ++ (tt_ws t0 ka aa ba sa .null cJ tZ ++ bo_ws bd0 h0 ro lo 0)))) [0, 1, 12, 13, 14, 15, 16, 3] rfl
    have hDc := hD.sub (ws' := (jw_ws out cJ 1 of ++ (bb_ws b0 bd0 pr0 t0 au0 da .null ++ (tt_ws t0 ka aa ba sa .null cJ tZ ++ bo_ws bd0 h0 ro lo 0)))) [0, 1, 12, 13, 14, 15, 16, 3] (by decide) rfl
    have hKc := hK.sub (tys' := [(cJ, .long), (cI, .int), (cR, .array .long)]) [0, 1, 2] rfl
    have hFc := va_free (wc := (jw_ws out cJ 1 of ++ (bb_ws b0 bd0 pr0 t0 au0 da .null ++ (tt_ws t0 ka aa ba sa .null cJ tZ ++ bo_ws bd0 h0 ro lo 0)))) hD hS hA [0, 1, 12, 13, 14, 15, 16, 3] rfl
    have hZc0 : xz (va_A (jw_ws out cJ 1 of ++ (bb_ws b0 bd0 pr0 t0 au0 da .null ++ (tt_ws t0 ka aa ba sa .null cJ tZ ++ bo_ws bd0 h0 ro lo 0))) H.size) s H := (hZx.kept hS.2.1).narrow hFc
    have hZc1 : nc_Z s := hZn
    refine vx_calli (vx_runSX (hh := h_Lw_count) (As := [.ref b0, .int x1, .ref out]) (rest := []) ⟨hx, hb, hml, hown, hts⟩ (c_Lw_count_n0 l hnt dC dI cJ cI cR H.size b0 bd0 pr0 t0 au0 da ka aa ba sa tZ h0 ro lo 0 x1 out of (Or.inl rfl) (Nat.zero_le 4) (Nat.zero_le 4) (Nat.zero_le 154) (Nat.zero_le 64) (Nat.zero_le 4) hC) (vx_cwSW 3 hts (gw_Sv gk_817 gk_818 gk_0 gk_819) rfl rfl rfl (by decide +kernel) ⟨(Nat.le_of_ble_eq_true rfl), (Nat.le_of_ble_eq_true rfl)⟩) ⟨fun a U g mk q => by obtain ⟨q0, q1, qP, qK, qD, qZ0, qZ1⟩ := q; exact ⟨q0, q1, qP, va_K.moved (u := U) (U := U.calling g mk a) (Vm.Alike.refl U.vm) qK, qD, xz.same (u := U) (U := U.calling g mk a) rfl qZ0, nc_Z.moved (u := U) (U := U.calling g mk a) (Vm.Alike.refl U.vm) qZ1⟩, fun U hU hW => ⟨rfl, by rw [hU], by rw [hU]; exact hPc, va_K.moved hW.alike hKc, hDc.weaken (fun _ _ _ _ => trivial), by rw [hU]; exact xz.warm hW hZc0, nc_Z.moved hW.alike hZc1⟩⟩ rfl rfl hl.1 rfl (lv_room (Nat.le_of_ble_eq_true rfl)) d_law_1918 ⟨show cells + 8 ≤ 601024 by omega, show slots + 48 ≤ 7293034 by omega⟩) hS (fun q _ h => hFc q h) hFc (fun q _ h => hFc q h) (fun E9 ce9 q9 u8 t9 H1 locs ht hvm hpx hbx hz1 hk1 hS hce hcv hcl => hpx.elim) (fun r_1 u9 t9 H1 locs ht hvm hw hB hz1 hk1 hS => ?_)
    obtain ⟨hP1, hK1, hD1⟩ := hB
    rw [ht] at hP1
    obtain ⟨hP, hD⟩ := va_joinQ (X := (jw_ws out cJ 1 of ++ (bb_ws b0 bd0 pr0 t0 au0 da .null ++ (rw_ws da cJ (r8 d0 d1 d2 d3 d4 d5 d6 d7) ++ (bd_ws bd0 h0 ro lo 0 cR (rrf rb) (rrf lb) ++ (pr_ws pr0 h0 cm cJ ccf ++ (ha_ws h0 aw ax ay cJ cI w csc cst cL ++ (tt_ws t0 ka aa ba sa .null cJ tZ ++ (au_ws au0 bd0 pr0 tu0 0 ++ (tt_ws tu0 uka uaa uba usa gu cJ tZ ++ (mo_ws m0 e0 0 0 0 0 0 0 0 0 0 0 a0 a1 a2 a3 a4 a5 a6 a7 a8 a9 mb0 mb1 oc mb2 mb3 mb4 mb5 ++ (iw_ws a7 cI 256 bf ++ (iw_ws a8 cI 64 sc ++ (iw_ws a9 cI 8 st ++ (iw_ws mb0 cI 8 kS ++ (iw_ws mb1 cI 64 kR ++ (jw_ws a2 cJ 4 tf ++ (jw_ws a0 cJ 1232 nf ++ (jw_ws a1 cJ 616 cf ++ (iw_ws a4 cI 4 kf ++ (jw_ws mb2 cJ 4 ky ++ (jw_ws a3 cJ 16 lf ++ (iw_ws a5 cI 4 sf ++ (iw_ws a6 cI 64 vf ++ (jw_ws mb3 cJ 128 md ++ (jw_ws mb4 cJ 4 sh ++ iw_ws mb5 cI 64 ct)))))))))))))))))))))))))) (cx := (jw_ws out cJ 1 of ++ (bb_ws b0 bd0 pr0 t0 au0 da .null ++ (tt_ws t0 ka aa ba sa .null cJ tZ ++ bo_ws bd0 h0 ro lo 0)))) (wr := (rw_ws da cJ (r8 d0 d1 d2 d3 d4 d5 d6 d7) ++ ([(ro, .inl (cR, 154, .inr (.inr (.inr (.inr (rrf rb))))))] ++ ([(lo, .inl (cR, 154, .inr (.inr (.inr (.inr (rrf lb))))))] ++ (pr_ws pr0 h0 cm cJ ccf ++ (ha_ws h0 aw ax ay cJ cI w csc cst cL ++ (au_ws au0 bd0 pr0 tu0 0 ++ (tt_ws tu0 uka uaa uba usa gu cJ tZ ++ (mo_ws m0 e0 0 0 0 0 0 0 0 0 0 0 a0 a1 a2 a3 a4 a5 a6 a7 a8 a9 mb0 mb1 oc mb2 mb3 mb4 mb5 ++ (iw_ws a7 cI 256 bf ++ (iw_ws a8 cI 64 sc ++ (iw_ws a9 cI 8 st ++ (iw_ws mb0 cI 8 kS ++ (iw_ws mb1 cI 64 kR ++ (jw_ws a2 cJ 4 tf ++ (jw_ws a0 cJ 1232 nf ++ (jw_ws a1 cJ 616 cf ++ (iw_ws a4 cI 4 kf ++ (jw_ws mb2 cJ 4 ky ++ (jw_ws a3 cJ 16 lf ++ (iw_ws a5 cI 4 sf ++ (iw_ws a6 cI 64 vf ++ (jw_ws mb3 cJ 128 md ++ (jw_ws mb4 cJ 4 sh ++ iw_ws mb5 cI 64 ct)))))))))))))))))))))))) (w1 := (jw_ws out cJ 1 (vp_updL of 0 (cntC tZ 0 0 0 0 u9)) ++ (bb_ws b0 bd0 pr0 t0 au0 da .null ++ (tt_ws t0 ka aa ba sa .null cJ tZ ++ bo_ws bd0 h0 ro lo 0)))) (pl := bpool rb lb cJ R Lk) hP hD [0, 1, 12, 13, 14, 15, 16, 3] [2, 4, 5, 6, 7, 8, 9, 10, 11, 17, 18, 19, 20, 21, 22, 23, 24, 25, 26, 27, 28, 29, 30, 31, 32, 33, 34, 35, 36, 37, 38, 39] rfl rfl (by decide) (by decide) hk1 hFc hP1 hD1
    have hP := hP.part (cx := (jw_ws out cJ 1 (vp_updL of 0 (cntC tZ 0 0 0 0 u9)) ++ (bb_ws b0 bd0 pr0 t0 au0 da .null ++ (rw_ws da cJ (r8 d0 d1 d2 d3 d4 d5 d6 d7) ++ (bd_ws bd0 h0 ro lo 0 cR (rrf rb) (rrf lb) ++ (pr_ws pr0 h0 cm cJ ccf ++ (ha_ws h0 aw ax ay cJ cI w csc cst cL ++ (tt_ws t0 ka aa ba sa .null cJ tZ ++ (au_ws au0 bd0 pr0 tu0 0 ++ (tt_ws tu0 uka uaa uba usa gu cJ tZ ++ (mo_ws m0 e0 0 0 0 0 0 0 0 0 0 0 a0 a1 a2 a3 a4 a5 a6 a7 a8 a9 mb0 mb1 oc mb2 mb3 mb4 mb5 ++ (iw_ws a7 cI 256 bf ++ (iw_ws a8 cI 64 sc ++ (iw_ws a9 cI 8 st ++ (iw_ws mb0 cI 8 kS ++ (iw_ws mb1 cI 64 kR ++ (jw_ws a2 cJ 4 tf ++ (jw_ws a0 cJ 1232 nf ++ (jw_ws a1 cJ 616 cf ++ (iw_ws a4 cI 4 kf ++ (jw_ws mb2 cJ 4 ky ++ (jw_ws a3 cJ 16 lf ++ (iw_ws a5 cI 4 sf ++ (iw_ws a6 cI 64 vf ++ (jw_ws mb3 cJ 128 md ++ (jw_ws mb4 cJ 4 sh ++ iw_ws mb5 cI 64 ct)))))))))))))))))))))))))) [32, 33, 0, 39, 1, 2, 3, 4, 5, 6, 7, 8, 34, 35, 36, 37, 38, 9, 10, 11, 12, 13, 14, 15, 16, 17, 18, 19, 20, 21, 22, 23, 24, 25, 26, 27, 28, 29, 30, 31] rfl
    have hD := hD.part (cx := (jw_ws out cJ 1 (vp_updL of 0 (cntC tZ 0 0 0 0 u9)) ++ (bb_ws b0 bd0 pr0 t0 au0 da .null ++ (rw_ws da cJ (r8 d0 d1 d2 d3 d4 d5 d6 d7) ++ (bd_ws bd0 h0 ro lo 0 cR (rrf rb) (rrf lb) ++ (pr_ws pr0 h0 cm cJ ccf ++ (ha_ws h0 aw ax ay cJ cI w csc cst cL ++ (tt_ws t0 ka aa ba sa .null cJ tZ ++ (au_ws au0 bd0 pr0 tu0 0 ++ (tt_ws tu0 uka uaa uba usa gu cJ tZ ++ (mo_ws m0 e0 0 0 0 0 0 0 0 0 0 0 a0 a1 a2 a3 a4 a5 a6 a7 a8 a9 mb0 mb1 oc mb2 mb3 mb4 mb5 ++ (iw_ws a7 cI 256 bf ++ (iw_ws a8 cI 64 sc ++ (iw_ws a9 cI 8 st ++ (iw_ws mb0 cI 8 kS ++ (iw_ws mb1 cI 64 kR ++ (jw_ws a2 cJ 4 tf ++ (jw_ws a0 cJ 1232 nf ++ (jw_ws a1 cJ 616 cf ++ (iw_ws a4 cI 4 kf ++ (jw_ws mb2 cJ 4 ky ++ (jw_ws a3 cJ 16 lf ++ (iw_ws a5 cI 4 sf ++ (iw_ws a6 cI 64 vf ++ (jw_ws mb3 cJ 128 md ++ (jw_ws mb4 cJ 4 sh ++ iw_ws mb5 cI 64 ct)))))))))))))))))))))))))) [32, 33, 0, 39, 1, 2, 3, 4, 5, 6, 7, 8, 34, 35, 36, 37, 38, 9, 10, 11, 12, 13, 14, 15, 16, 17, 18, 19, 20, 21, 22, 23, 24, 25, 26, 27, 28, 29, 30, 31] (by decide) rfl
    generalize H1 = H at hP hS ⊢
    clear hPc hDc hFc hP1 hD1 hK1 ht hk1 hz1
    have hr9 : r_1 = 0 := hw.1
    subst hr9
    have hw := hw.2
    obtain ⟨hi9, hxk⟩ := hw
    refine lv_istore (lv' := [(5, .int 0), (4, .int (nI i)), (3, .ref out), (2, .ref m0), (1, .ref b0), (0, .ref b)]) hx hb d_law_1921 hl (by decide) rfl (fun ls hl => ?_)
    refine lv_aload_n hx hb d_law_1923 rfl (lv_at hl 3 rfl) ?_
    refine lv_aload_n hx hb d_law_1924 rfl (lv_at hl 5 rfl) ?_
    refine lv_iload hx hb d_law_1925 (lv_at hl 1 rfl) ?_
    refine lv_iconst (v := 1) hx hb d_law_1927 (by decide) ?_
    refine lv_iadd hx hb d_law_1928 ?_
    rw [show ((nI i) + 1 : Int32) = nI (i + 1) from nI_add _ 1]
    refine va_sld hx hb hX hbl hbA hS (vp_in_nI (by omega) (by omega)) d_law_1929 ?_
    rw [show (xs (nI (i + 1)).toNatClampNeg : Int32) = xs (i + 1) from by rw [nI_clamp (by omega)]]
    rw [show (xs (i + 1) : Int32) = nI u9 from (hx1.symm.trans hxk)]
    have hPc := hP.sub (ws' := (mo_ws m0 e0 0 0 0 0 0 0 0 0 0 0 a0 a1 a2 a3 a4 a5 a6 a7 a8 a9 mb0 mb1 oc mb2 mb3 mb4 mb5)) [23] rfl
    have hDc := hD.sub (ws' := (mo_ws m0 e0 0 0 0 0 0 0 0 0 0 0 a0 a1 a2 a3 a4 a5 a6 a7 a8 a9 mb0 mb1 oc mb2 mb3 mb4 mb5)) [23] (by decide) rfl
    have hKc := hK.sub (tys' := [(cJ, .long), (cI, .int)]) [0, 1] rfl
    have hFc := va_free (wc := (mo_ws m0 e0 0 0 0 0 0 0 0 0 0 0 a0 a1 a2 a3 a4 a5 a6 a7 a8 a9 mb0 mb1 oc mb2 mb3 mb4 mb5)) hD hS hA [23] rfl
    refine va_calll (va_runV (As := [.int (nI u9)]) (rest := []) ⟨hx, hb, hml, hown, hts⟩ (c_Bm_count_n0 l dC dI cJ cI H.size m0 e0 a0 a1 a2 a3 a4 a5 a6 a7 a8 a9 mb0 mb1 oc mb2 mb3 mb4 mb5 u9 hi9) (cwV 1 hts (gw_V gk_1198 gk_1199 gk_1200 gk_7 gk_1201) rfl rfl rfl (by decide +kernel) ⟨(Nat.le_of_ble_eq_true rfl), (Nat.le_of_ble_eq_true rfl)⟩) ⟨fun a U g mk q => by obtain ⟨q0, q1, qP, qK, qD⟩ := q; exact ⟨q0, q1, qP, va_K.moved (u := U) (U := U.calling g mk a) (Vm.Alike.refl U.vm) qK, qD⟩, va_recv hK hP (ci := 8) (q0 := 23) rfl rfl, fun U hU hW => ⟨rfl, by rw [hU], by rw [hU]; exact hPc, va_K.moved hW.alike hKc, hDc.weaken (fun _ _ _ _ => trivial)⟩⟩ rfl rfl hl.1 rfl (lv_room (Nat.le_of_ble_eq_true rfl)) d_law_1930 ⟨show cells + 8 + 0 ≤ 601024 by omega, show slots + 48 + 0 ≤ 7293034 by omega⟩) hS (fun q _ h => hFc q h) hFc (fun r_2 v9 t9 H1 locs ht hvm hw hB hz1 hk1 hS => ?_)
    obtain ⟨hP1, hK1, hD1⟩ := hB
    rw [ht] at hP1
    obtain ⟨hP, hD⟩ := va_joinQ (X := (jw_ws out cJ 1 (vp_updL of 0 (cntC tZ 0 0 0 0 u9)) ++ (bb_ws b0 bd0 pr0 t0 au0 da .null ++ (rw_ws da cJ (r8 d0 d1 d2 d3 d4 d5 d6 d7) ++ (bd_ws bd0 h0 ro lo 0 cR (rrf rb) (rrf lb) ++ (pr_ws pr0 h0 cm cJ ccf ++ (ha_ws h0 aw ax ay cJ cI w csc cst cL ++ (tt_ws t0 ka aa ba sa .null cJ tZ ++ (au_ws au0 bd0 pr0 tu0 0 ++ (tt_ws tu0 uka uaa uba usa gu cJ tZ ++ (mo_ws m0 e0 0 0 0 0 0 0 0 0 0 0 a0 a1 a2 a3 a4 a5 a6 a7 a8 a9 mb0 mb1 oc mb2 mb3 mb4 mb5 ++ (iw_ws a7 cI 256 bf ++ (iw_ws a8 cI 64 sc ++ (iw_ws a9 cI 8 st ++ (iw_ws mb0 cI 8 kS ++ (iw_ws mb1 cI 64 kR ++ (jw_ws a2 cJ 4 tf ++ (jw_ws a0 cJ 1232 nf ++ (jw_ws a1 cJ 616 cf ++ (iw_ws a4 cI 4 kf ++ (jw_ws mb2 cJ 4 ky ++ (jw_ws a3 cJ 16 lf ++ (iw_ws a5 cI 4 sf ++ (iw_ws a6 cI 64 vf ++ (jw_ws mb3 cJ 128 md ++ (jw_ws mb4 cJ 4 sh ++ iw_ws mb5 cI 64 ct)))))))))))))))))))))))))) (cx := (mo_ws m0 e0 0 0 0 0 0 0 0 0 0 0 a0 a1 a2 a3 a4 a5 a6 a7 a8 a9 mb0 mb1 oc mb2 mb3 mb4 mb5)) (wr := (jw_ws out cJ 1 (vp_updL of 0 (cntC tZ 0 0 0 0 u9)) ++ (bb_ws b0 bd0 pr0 t0 au0 da .null ++ (rw_ws da cJ (r8 d0 d1 d2 d3 d4 d5 d6 d7) ++ (bd_ws bd0 h0 ro lo 0 cR (rrf rb) (rrf lb) ++ (pr_ws pr0 h0 cm cJ ccf ++ (ha_ws h0 aw ax ay cJ cI w csc cst cL ++ (tt_ws t0 ka aa ba sa .null cJ tZ ++ (au_ws au0 bd0 pr0 tu0 0 ++ (tt_ws tu0 uka uaa uba usa gu cJ tZ ++ (iw_ws a7 cI 256 bf ++ (iw_ws a8 cI 64 sc ++ (iw_ws a9 cI 8 st ++ (iw_ws mb0 cI 8 kS ++ (iw_ws mb1 cI 64 kR ++ (jw_ws a2 cJ 4 tf ++ (jw_ws a0 cJ 1232 nf ++ (jw_ws a1 cJ 616 cf ++ (iw_ws a4 cI 4 kf ++ (jw_ws mb2 cJ 4 ky ++ (jw_ws a3 cJ 16 lf ++ (iw_ws a5 cI 4 sf ++ (iw_ws a6 cI 64 vf ++ (jw_ws mb3 cJ 128 md ++ (jw_ws mb4 cJ 4 sh ++ iw_ws mb5 cI 64 ct))))))))))))))))))))))))) (w1 := (mo_ws m0 0 0 0 0 0 0 0 0 0 0 0 a0 a1 a2 a3 a4 a5 a6 a7 a8 a9 mb0 mb1 oc mb2 mb3 mb4 mb5)) (pl := bpool rb lb cJ R Lk) hP hD [23] [0, 1, 2, 3, 4, 5, 6, 7, 8, 9, 10, 11, 12, 13, 14, 15, 16, 17, 18, 19, 20, 21, 22, 24, 25, 26, 27, 28, 29, 30, 31, 32, 33, 34, 35, 36, 37, 38, 39] rfl rfl (by decide) (by decide) hk1 hFc hP1 hD1
    have hP := hP.part (cx := (jw_ws out cJ 1 (vp_updL of 0 (cntC tZ 0 0 0 0 u9)) ++ (bb_ws b0 bd0 pr0 t0 au0 da .null ++ (rw_ws da cJ (r8 d0 d1 d2 d3 d4 d5 d6 d7) ++ (bd_ws bd0 h0 ro lo 0 cR (rrf rb) (rrf lb) ++ (pr_ws pr0 h0 cm cJ ccf ++ (ha_ws h0 aw ax ay cJ cI w csc cst cL ++ (tt_ws t0 ka aa ba sa .null cJ tZ ++ (au_ws au0 bd0 pr0 tu0 0 ++ (tt_ws tu0 uka uaa uba usa gu cJ tZ ++ (mo_ws m0 0 0 0 0 0 0 0 0 0 0 0 a0 a1 a2 a3 a4 a5 a6 a7 a8 a9 mb0 mb1 oc mb2 mb3 mb4 mb5 ++ (iw_ws a7 cI 256 bf ++ (iw_ws a8 cI 64 sc ++ (iw_ws a9 cI 8 st ++ (iw_ws mb0 cI 8 kS ++ (iw_ws mb1 cI 64 kR ++ (jw_ws a2 cJ 4 tf ++ (jw_ws a0 cJ 1232 nf ++ (jw_ws a1 cJ 616 cf ++ (iw_ws a4 cI 4 kf ++ (jw_ws mb2 cJ 4 ky ++ (jw_ws a3 cJ 16 lf ++ (iw_ws a5 cI 4 sf ++ (iw_ws a6 cI 64 vf ++ (jw_ws mb3 cJ 128 md ++ (jw_ws mb4 cJ 4 sh ++ iw_ws mb5 cI 64 ct)))))))))))))))))))))))))) [0, 1, 2, 3, 4, 5, 6, 7, 8, 9, 10, 11, 12, 13, 14, 15, 16, 17, 18, 19, 20, 21, 22, 39, 23, 24, 25, 26, 27, 28, 29, 30, 31, 32, 33, 34, 35, 36, 37, 38] rfl
    have hD := hD.part (cx := (jw_ws out cJ 1 (vp_updL of 0 (cntC tZ 0 0 0 0 u9)) ++ (bb_ws b0 bd0 pr0 t0 au0 da .null ++ (rw_ws da cJ (r8 d0 d1 d2 d3 d4 d5 d6 d7) ++ (bd_ws bd0 h0 ro lo 0 cR (rrf rb) (rrf lb) ++ (pr_ws pr0 h0 cm cJ ccf ++ (ha_ws h0 aw ax ay cJ cI w csc cst cL ++ (tt_ws t0 ka aa ba sa .null cJ tZ ++ (au_ws au0 bd0 pr0 tu0 0 ++ (tt_ws tu0 uka uaa uba usa gu cJ tZ ++ (mo_ws m0 0 0 0 0 0 0 0 0 0 0 0 a0 a1 a2 a3 a4 a5 a6 a7 a8 a9 mb0 mb1 oc mb2 mb3 mb4 mb5 ++ (iw_ws a7 cI 256 bf ++ (iw_ws a8 cI 64 sc ++ (iw_ws a9 cI 8 st ++ (iw_ws mb0 cI 8 kS ++ (iw_ws mb1 cI 64 kR ++ (jw_ws a2 cJ 4 tf ++ (jw_ws a0 cJ 1232 nf ++ (jw_ws a1 cJ 616 cf ++ (iw_ws a4 cI 4 kf ++ (jw_ws mb2 cJ 4 ky ++ (jw_ws a3 cJ 16 lf ++ (iw_ws a5 cI 4 sf ++ (iw_ws a6 cI 64 vf ++ (jw_ws mb3 cJ 128 md ++ (jw_ws mb4 cJ 4 sh ++ iw_ws mb5 cI 64 ct)))))))))))))))))))))))))) [0, 1, 2, 3, 4, 5, 6, 7, 8, 9, 10, 11, 12, 13, 14, 15, 16, 17, 18, 19, 20, 21, 22, 39, 23, 24, 25, 26, 27, 28, 29, 30, 31, 32, 33, 34, 35, 36, 37, 38] (by decide) rfl
    generalize H1 = H at hP hS ⊢
    clear hPc hDc hFc hP1 hD1 hK1 ht hk1 hz1
    have hr8 := hw
    subst hr8
    refine lv_lstore (lv' := [(6, .long 0), (5, .int 0), (4, .int (nI i)), (3, .ref out), (2, .ref m0), (1, .ref b0), (0, .ref b)]) hx hb d_law_1933 hl (by decide) rfl (fun ls hl => ?_)
    refine lv_aload_n hx hb d_law_1935 rfl (lv_at hl 4 rfl) ?_
    have hPc := hP.sub (ws' := (mo_ws m0 0 0 0 0 0 0 0 0 0 0 0 a0 a1 a2 a3 a4 a5 a6 a7 a8 a9 mb0 mb1 oc mb2 mb3 mb4 mb5)) [23] rfl
    have hKc := hK.sub (tys' := [(cJ, .long), (cI, .int)]) [0, 1] rfl
    refine va_calli (va_runV (As := []) (rest := []) ⟨hx, hb, hml, hown, hts⟩ (c_Bm_thrown l H dC dI cJ cI m0 0 0 0 0 0 0 0 0 0 0 0 a0 a1 a2 a3 a4 a5 a6 a7 a8 a9 mb0 mb1 oc mb2 mb3 mb4 mb5 hPc) (cwV 0 hts (gw_V gk_1004 gk_1005 gk_1006 gk_7 gk_1007) rfl rfl rfl (by decide +kernel) ⟨(Nat.le_of_ble_eq_true rfl), (Nat.le_of_ble_eq_true rfl)⟩) ⟨fun a U g mk q => ⟨q.1, q.2.1, va_K.moved (u := U) (U := U.calling g mk a) (Vm.Alike.refl U.vm) q.2.2⟩, va_recv hK hP (ci := 8) (q0 := 23) rfl rfl, fun U hU hW => ⟨rfl, hU, va_K.moved hW.alike hKc⟩⟩ rfl rfl hl.1 rfl (lv_room (Nat.le_of_ble_eq_true rfl)) d_law_1936 ⟨show cells + 8 + 0 + 0 ≤ 601024 by omega, show slots + 48 + 0 + 0 ≤ 7293034 by omega⟩) hS (fun q _ h => h.elim) (fun q h => h.elim) (fun r_3 w9 t9 H1 locs ht hvm hw9 hB hz1 hk1 hS => ?_)
    obtain rfl : H = H1 := hB.symm.trans ht
    have hw9 : r_3 = 0 := hw9
    subst hw9
    clear hPc hz1 hk1 hB
    refine lv_iload hx hb d_law_1939 (lv_at hl 1 rfl) ?_
    refine lv_icmp_eq (tgt := 1946) hx hb d_law_1941 (by decide) (fun c_4 => ?_) (fun c_4 => ?_)
    · -- taken
      refine lv_iload hx hb d_law_1946 (lv_at hl 1 rfl) ?_
      refine lv_if_ne (tgt := 1962) hx hb d_law_1948 (by decide) (fun c_5 => ?_) (fun c_5 => ?_)
      · -- taken
        exact absurd rfl c_5
      · -- not taken
        refine lv_aload_n hx hb d_law_1951 rfl (lv_at hl 3 rfl) ?_
        refine lv_iconst (v := 0) hx hb d_law_1952 (by decide) ?_
        refine va_lald hx hb hK hP 0 0 rfl rfl (vp_lit rfl) d_law_1953 ?_
        refine lv_topl (fun v_6 ev_6 => ?_)
        obtain rfl : v_6 = cntC tZ 0 0 0 0 u9 := ev_6.trans rfl
        refine lv_lload hx hb d_law_1954 (lv_at hl 0 rfl) ?_
        refine W.lcmp hx hb d_law_1956 ?_
        refine lv_if_eq (tgt := 1962) hx hb d_law_1957 (by decide) (fun c_7 => ?_) (fun c_7 => ?_)
        · -- taken
          refine lv_goto (tgt := 1965) hx hb d_law_1962 (by decide) ?_
          refine W.widen (k := cells + 20) (n := slots + 200) (by omega) (by omega) ?_
          have hI9 : LI dC dI cJ cI cR A out b0 m0 H := LF.mk hP hD
          exact cont _ _ _ hS hI9 (lv_sub hl [2, 3, 4, 5, 6] rfl)
        · -- not taken
          exact absurd (lgc (cntZ u9 hi9)) c_7
    · -- not taken
      exact absurd c_4 (by decide)
  refine lv_aload_n hx hb d_law_1910 rfl (lv_at hl 3 rfl) ?_
  refine lv_aload_n hx hb d_law_1911 rfl (lv_at hl 4 rfl) ?_
  refine lv_iload hx hb d_law_1912 (lv_at hl 0 rfl) ?_
  refine lv_iconst (v := 1) hx hb d_law_1914 (by decide) ?_
  refine lv_iadd hx hb d_law_1915 ?_
  rw [show ((nI i) + 1 : Int32) = nI (i + 1) from nI_add _ 1]
  refine va_sld hx hb hX hbl hbA hS (vp_in_nI (by omega) (by omega)) d_law_1916 ?_
  rw [show (xs (nI (i + 1)).toNatClampNeg : Int32) = xs (i + 1) from by rw [nI_clamp (by omega)]]
  rw [show (xs (i + 1) : Int32) = x1 from hx1.symm]
  refine lv_aload_n hx hb d_law_1917 rfl (lv_at hl 1 rfl) ?_
  have hPc := hP.sub (ws' := (jw_ws out cJ 1 of ++ (bb_ws b0 bd0 pr0 t0 au0 da .null ++ (tt_ws t0 ka aa ba sa .null cJ tZ ++ bo_ws bd0 h0 ro lo 0)))) [0, 1, 12, 13, 14, 15, 16, 3] rfl
  have hDc := hD.sub (ws' := (jw_ws out cJ 1 of ++ (bb_ws b0 bd0 pr0 t0 au0 da .null ++ (tt_ws t0 ka aa ba sa .null cJ tZ ++ bo_ws bd0 h0 ro lo 0)))) [0, 1, 12, 13, 14, 15, 16, 3] (by decide) rfl
  have hKc := hK.sub (tys' := [(cJ, .long), (cI, .int), (cR, .array .long)]) [0, 1, 2] rfl
  have hFc := va_free (wc := (jw_ws out cJ 1 of ++ (bb_ws b0 bd0 pr0 t0 au0 da .null ++ (tt_ws t0 ka aa ba sa .null cJ tZ ++ bo_ws bd0 h0 ro lo 0)))) hD hS hA [0, 1, 12, 13, 14, 15, 16, 3] rfl
  have hZc0 : xz (va_A (jw_ws out cJ 1 of ++ (bb_ws b0 bd0 pr0 t0 au0 da .null ++ (tt_ws t0 ka aa ba sa .null cJ tZ ++ bo_ws bd0 h0 ro lo 0))) H.size) s H := (hZx.kept hS.2.1).narrow hFc
  have hZc1 : nc_Z s := hZn
  refine vx_calli (vx_runSX (hh := h_Lw_count) (As := [.ref b0, .int x1, .ref out]) (rest := []) ⟨hx, hb, hml, hown, hts⟩ (c_Lw_count_n1 l hnt dC dI cJ cI cR H.size b0 bd0 pr0 t0 au0 da ka aa ba sa tZ h0 ro lo 0 x1 out of (Or.inl rfl) (Nat.zero_le 4) (Nat.zero_le 4) (Nat.zero_le 154) (Nat.zero_le 64) (Nat.zero_le 4) hC) (vx_cwSW 3 hts (gw_Sv gk_817 gk_818 gk_0 gk_819) rfl rfl rfl (by decide +kernel) ⟨(Nat.le_of_ble_eq_true rfl), (Nat.le_of_ble_eq_true rfl)⟩) ⟨fun a U g mk q => by obtain ⟨q0, q1, qP, qK, qD, qZ0, qZ1⟩ := q; exact ⟨q0, q1, qP, va_K.moved (u := U) (U := U.calling g mk a) (Vm.Alike.refl U.vm) qK, qD, xz.same (u := U) (U := U.calling g mk a) rfl qZ0, nc_Z.moved (u := U) (U := U.calling g mk a) (Vm.Alike.refl U.vm) qZ1⟩, fun U hU hW => ⟨rfl, by rw [hU], by rw [hU]; exact hPc, va_K.moved hW.alike hKc, hDc.weaken (fun _ _ _ _ => trivial), by rw [hU]; exact xz.warm hW hZc0, nc_Z.moved hW.alike hZc1⟩⟩ rfl rfl hl.1 rfl (lv_room (Nat.le_of_ble_eq_true rfl)) d_law_1918 ⟨show cells + 8 ≤ 601024 by omega, show slots + 48 ≤ 7293034 by omega⟩) hS (fun q _ h => hFc q h) hFc (fun q _ h => hFc q h) (fun E9 ce9 q9 u8 t9 H1 locs ht hvm hpx hbx hz1 hk1 hS hce hcv hcl => hpx.elim) (fun r_8 u9 t9 H1 locs ht hvm hw hB hz1 hk1 hS => ?_)
  obtain ⟨hP1, hK1, hD1⟩ := hB
  rw [ht] at hP1
  obtain ⟨hP, hD⟩ := va_joinQ (X := (jw_ws out cJ 1 of ++ (bb_ws b0 bd0 pr0 t0 au0 da .null ++ (rw_ws da cJ (r8 d0 d1 d2 d3 d4 d5 d6 d7) ++ (bd_ws bd0 h0 ro lo 0 cR (rrf rb) (rrf lb) ++ (pr_ws pr0 h0 cm cJ ccf ++ (ha_ws h0 aw ax ay cJ cI w csc cst cL ++ (tt_ws t0 ka aa ba sa .null cJ tZ ++ (au_ws au0 bd0 pr0 tu0 0 ++ (tt_ws tu0 uka uaa uba usa gu cJ tZ ++ (mo_ws m0 e0 0 0 0 0 0 0 0 0 0 0 a0 a1 a2 a3 a4 a5 a6 a7 a8 a9 mb0 mb1 oc mb2 mb3 mb4 mb5 ++ (iw_ws a7 cI 256 bf ++ (iw_ws a8 cI 64 sc ++ (iw_ws a9 cI 8 st ++ (iw_ws mb0 cI 8 kS ++ (iw_ws mb1 cI 64 kR ++ (jw_ws a2 cJ 4 tf ++ (jw_ws a0 cJ 1232 nf ++ (jw_ws a1 cJ 616 cf ++ (iw_ws a4 cI 4 kf ++ (jw_ws mb2 cJ 4 ky ++ (jw_ws a3 cJ 16 lf ++ (iw_ws a5 cI 4 sf ++ (iw_ws a6 cI 64 vf ++ (jw_ws mb3 cJ 128 md ++ (jw_ws mb4 cJ 4 sh ++ iw_ws mb5 cI 64 ct)))))))))))))))))))))))))) (cx := (jw_ws out cJ 1 of ++ (bb_ws b0 bd0 pr0 t0 au0 da .null ++ (tt_ws t0 ka aa ba sa .null cJ tZ ++ bo_ws bd0 h0 ro lo 0)))) (wr := (rw_ws da cJ (r8 d0 d1 d2 d3 d4 d5 d6 d7) ++ ([(ro, .inl (cR, 154, .inr (.inr (.inr (.inr (rrf rb))))))] ++ ([(lo, .inl (cR, 154, .inr (.inr (.inr (.inr (rrf lb))))))] ++ (pr_ws pr0 h0 cm cJ ccf ++ (ha_ws h0 aw ax ay cJ cI w csc cst cL ++ (au_ws au0 bd0 pr0 tu0 0 ++ (tt_ws tu0 uka uaa uba usa gu cJ tZ ++ (mo_ws m0 e0 0 0 0 0 0 0 0 0 0 0 a0 a1 a2 a3 a4 a5 a6 a7 a8 a9 mb0 mb1 oc mb2 mb3 mb4 mb5 ++ (iw_ws a7 cI 256 bf ++ (iw_ws a8 cI 64 sc ++ (iw_ws a9 cI 8 st ++ (iw_ws mb0 cI 8 kS ++ (iw_ws mb1 cI 64 kR ++ (jw_ws a2 cJ 4 tf ++ (jw_ws a0 cJ 1232 nf ++ (jw_ws a1 cJ 616 cf ++ (iw_ws a4 cI 4 kf ++ (jw_ws mb2 cJ 4 ky ++ (jw_ws a3 cJ 16 lf ++ (iw_ws a5 cI 4 sf ++ (iw_ws a6 cI 64 vf ++ (jw_ws mb3 cJ 128 md ++ (jw_ws mb4 cJ 4 sh ++ iw_ws mb5 cI 64 ct)))))))))))))))))))))))) (w1 := (jw_ws out cJ 1 of ++ (bb_ws b0 bd0 pr0 t0 au0 da .null ++ (tt_ws t0 ka aa ba sa .null cJ tZ ++ bo_ws bd0 h0 ro lo 0)))) (pl := bpool rb lb cJ R Lk) hP hD [0, 1, 12, 13, 14, 15, 16, 3] [2, 4, 5, 6, 7, 8, 9, 10, 11, 17, 18, 19, 20, 21, 22, 23, 24, 25, 26, 27, 28, 29, 30, 31, 32, 33, 34, 35, 36, 37, 38, 39] rfl rfl (by decide) (by decide) hk1 hFc hP1 hD1
  have hP := hP.part (cx := (jw_ws out cJ 1 of ++ (bb_ws b0 bd0 pr0 t0 au0 da .null ++ (rw_ws da cJ (r8 d0 d1 d2 d3 d4 d5 d6 d7) ++ (bd_ws bd0 h0 ro lo 0 cR (rrf rb) (rrf lb) ++ (pr_ws pr0 h0 cm cJ ccf ++ (ha_ws h0 aw ax ay cJ cI w csc cst cL ++ (tt_ws t0 ka aa ba sa .null cJ tZ ++ (au_ws au0 bd0 pr0 tu0 0 ++ (tt_ws tu0 uka uaa uba usa gu cJ tZ ++ (mo_ws m0 e0 0 0 0 0 0 0 0 0 0 0 a0 a1 a2 a3 a4 a5 a6 a7 a8 a9 mb0 mb1 oc mb2 mb3 mb4 mb5 ++ (iw_ws a7 cI 256 bf ++ (iw_ws a8 cI 64 sc ++ (iw_ws a9 cI 8 st ++ (iw_ws mb0 cI 8 kS ++ (iw_ws mb1 cI 64 kR ++ (jw_ws a2 cJ 4 tf ++ (jw_ws a0 cJ 1232 nf ++ (jw_ws a1 cJ 616 cf ++ (iw_ws a4 cI 4 kf ++ (jw_ws mb2 cJ 4 ky ++ (jw_ws a3 cJ 16 lf ++ (iw_ws a5 cI 4 sf ++ (iw_ws a6 cI 64 vf ++ (jw_ws mb3 cJ 128 md ++ (jw_ws mb4 cJ 4 sh ++ iw_ws mb5 cI 64 ct)))))))))))))))))))))))))) [32, 33, 0, 39, 1, 2, 3, 4, 5, 6, 7, 8, 34, 35, 36, 37, 38, 9, 10, 11, 12, 13, 14, 15, 16, 17, 18, 19, 20, 21, 22, 23, 24, 25, 26, 27, 28, 29, 30, 31] rfl
  have hD := hD.part (cx := (jw_ws out cJ 1 of ++ (bb_ws b0 bd0 pr0 t0 au0 da .null ++ (rw_ws da cJ (r8 d0 d1 d2 d3 d4 d5 d6 d7) ++ (bd_ws bd0 h0 ro lo 0 cR (rrf rb) (rrf lb) ++ (pr_ws pr0 h0 cm cJ ccf ++ (ha_ws h0 aw ax ay cJ cI w csc cst cL ++ (tt_ws t0 ka aa ba sa .null cJ tZ ++ (au_ws au0 bd0 pr0 tu0 0 ++ (tt_ws tu0 uka uaa uba usa gu cJ tZ ++ (mo_ws m0 e0 0 0 0 0 0 0 0 0 0 0 a0 a1 a2 a3 a4 a5 a6 a7 a8 a9 mb0 mb1 oc mb2 mb3 mb4 mb5 ++ (iw_ws a7 cI 256 bf ++ (iw_ws a8 cI 64 sc ++ (iw_ws a9 cI 8 st ++ (iw_ws mb0 cI 8 kS ++ (iw_ws mb1 cI 64 kR ++ (jw_ws a2 cJ 4 tf ++ (jw_ws a0 cJ 1232 nf ++ (jw_ws a1 cJ 616 cf ++ (iw_ws a4 cI 4 kf ++ (jw_ws mb2 cJ 4 ky ++ (jw_ws a3 cJ 16 lf ++ (iw_ws a5 cI 4 sf ++ (iw_ws a6 cI 64 vf ++ (jw_ws mb3 cJ 128 md ++ (jw_ws mb4 cJ 4 sh ++ iw_ws mb5 cI 64 ct)))))))))))))))))))))))))) [32, 33, 0, 39, 1, 2, 3, 4, 5, 6, 7, 8, 34, 35, 36, 37, 38, 9, 10, 11, 12, 13, 14, 15, 16, 17, 18, 19, 20, 21, 22, 23, 24, 25, 26, 27, 28, 29, 30, 31] (by decide) rfl
  generalize H1 = H at hP hS ⊢
  clear hPc hDc hFc hP1 hD1 hK1 ht hk1 hz1
  have hr9 : r_8 = 1 := hw
  subst hr9
  refine lv_istore (lv' := [(5, .int 1), (4, .int (nI i)), (3, .ref out), (2, .ref m0), (1, .ref b0), (0, .ref b)]) hx hb d_law_1921 hl (by decide) rfl (fun ls hl => ?_)
  refine lv_aload_n hx hb d_law_1923 rfl (lv_at hl 3 rfl) ?_
  refine lv_aload_n hx hb d_law_1924 rfl (lv_at hl 5 rfl) ?_
  refine lv_iload hx hb d_law_1925 (lv_at hl 1 rfl) ?_
  refine lv_iconst (v := 1) hx hb d_law_1927 (by decide) ?_
  refine lv_iadd hx hb d_law_1928 ?_
  rw [show ((nI i) + 1 : Int32) = nI (i + 1) from nI_add _ 1]
  refine va_sld hx hb hX hbl hbA hS (vp_in_nI (by omega) (by omega)) d_law_1929 ?_
  rw [show (xs (nI (i + 1)).toNatClampNeg : Int32) = xs (i + 1) from by rw [nI_clamp (by omega)]]
  rw [show (xs (i + 1) : Int32) = x1 from hx1.symm]
  have hPc := hP.sub (ws' := (mo_ws m0 e0 0 0 0 0 0 0 0 0 0 0 a0 a1 a2 a3 a4 a5 a6 a7 a8 a9 mb0 mb1 oc mb2 mb3 mb4 mb5)) [23] rfl
  have hDc := hD.sub (ws' := (mo_ws m0 e0 0 0 0 0 0 0 0 0 0 0 a0 a1 a2 a3 a4 a5 a6 a7 a8 a9 mb0 mb1 oc mb2 mb3 mb4 mb5)) [23] (by decide) rfl
  have hKc := hK.sub (tys' := [(cJ, .long), (cI, .int)]) [0, 1] rfl
  have hFc := va_free (wc := (mo_ws m0 e0 0 0 0 0 0 0 0 0 0 0 a0 a1 a2 a3 a4 a5 a6 a7 a8 a9 mb0 mb1 oc mb2 mb3 mb4 mb5)) hD hS hA [23] rfl
  refine va_calll (va_runV (As := [.int x1]) (rest := []) ⟨hx, hb, hml, hown, hts⟩ (c_Bm_count_n1 l dC dI cJ cI H.size m0 e0 0 0 0 0 0 0 0 0 0 0 a0 a1 a2 a3 a4 a5 a6 a7 a8 a9 mb0 mb1 oc mb2 mb3 mb4 mb5 x1 hC) (cwV 1 hts (gw_V gk_1198 gk_1199 gk_1200 gk_7 gk_1201) rfl rfl rfl (by decide +kernel) ⟨(Nat.le_of_ble_eq_true rfl), (Nat.le_of_ble_eq_true rfl)⟩) ⟨fun a U g mk q => by obtain ⟨q0, q1, qP, qK, qD⟩ := q; exact ⟨q0, q1, qP, va_K.moved (u := U) (U := U.calling g mk a) (Vm.Alike.refl U.vm) qK, qD⟩, va_recv hK hP (ci := 8) (q0 := 23) rfl rfl, fun U hU hW => ⟨rfl, by rw [hU], by rw [hU]; exact hPc, va_K.moved hW.alike hKc, hDc.weaken (fun _ _ _ _ => trivial)⟩⟩ rfl rfl hl.1 rfl (lv_room (Nat.le_of_ble_eq_true rfl)) d_law_1930 ⟨show cells + 8 + 0 ≤ 601024 by omega, show slots + 48 + 0 ≤ 7293034 by omega⟩) hS (fun q _ h => hFc q h) hFc (fun r_9 v9 t9 H1 locs ht hvm hw hB hz1 hk1 hS => ?_)
  obtain ⟨hP1, hK1, hD1⟩ := hB
  rw [ht] at hP1
  obtain ⟨hP, hD⟩ := va_joinQ (X := (jw_ws out cJ 1 of ++ (bb_ws b0 bd0 pr0 t0 au0 da .null ++ (rw_ws da cJ (r8 d0 d1 d2 d3 d4 d5 d6 d7) ++ (bd_ws bd0 h0 ro lo 0 cR (rrf rb) (rrf lb) ++ (pr_ws pr0 h0 cm cJ ccf ++ (ha_ws h0 aw ax ay cJ cI w csc cst cL ++ (tt_ws t0 ka aa ba sa .null cJ tZ ++ (au_ws au0 bd0 pr0 tu0 0 ++ (tt_ws tu0 uka uaa uba usa gu cJ tZ ++ (mo_ws m0 e0 0 0 0 0 0 0 0 0 0 0 a0 a1 a2 a3 a4 a5 a6 a7 a8 a9 mb0 mb1 oc mb2 mb3 mb4 mb5 ++ (iw_ws a7 cI 256 bf ++ (iw_ws a8 cI 64 sc ++ (iw_ws a9 cI 8 st ++ (iw_ws mb0 cI 8 kS ++ (iw_ws mb1 cI 64 kR ++ (jw_ws a2 cJ 4 tf ++ (jw_ws a0 cJ 1232 nf ++ (jw_ws a1 cJ 616 cf ++ (iw_ws a4 cI 4 kf ++ (jw_ws mb2 cJ 4 ky ++ (jw_ws a3 cJ 16 lf ++ (iw_ws a5 cI 4 sf ++ (iw_ws a6 cI 64 vf ++ (jw_ws mb3 cJ 128 md ++ (jw_ws mb4 cJ 4 sh ++ iw_ws mb5 cI 64 ct)))))))))))))))))))))))))) (cx := (mo_ws m0 e0 0 0 0 0 0 0 0 0 0 0 a0 a1 a2 a3 a4 a5 a6 a7 a8 a9 mb0 mb1 oc mb2 mb3 mb4 mb5)) (wr := (jw_ws out cJ 1 of ++ (bb_ws b0 bd0 pr0 t0 au0 da .null ++ (rw_ws da cJ (r8 d0 d1 d2 d3 d4 d5 d6 d7) ++ (bd_ws bd0 h0 ro lo 0 cR (rrf rb) (rrf lb) ++ (pr_ws pr0 h0 cm cJ ccf ++ (ha_ws h0 aw ax ay cJ cI w csc cst cL ++ (tt_ws t0 ka aa ba sa .null cJ tZ ++ (au_ws au0 bd0 pr0 tu0 0 ++ (tt_ws tu0 uka uaa uba usa gu cJ tZ ++ (iw_ws a7 cI 256 bf ++ (iw_ws a8 cI 64 sc ++ (iw_ws a9 cI 8 st ++ (iw_ws mb0 cI 8 kS ++ (iw_ws mb1 cI 64 kR ++ (jw_ws a2 cJ 4 tf ++ (jw_ws a0 cJ 1232 nf ++ (jw_ws a1 cJ 616 cf ++ (iw_ws a4 cI 4 kf ++ (jw_ws mb2 cJ 4 ky ++ (jw_ws a3 cJ 16 lf ++ (iw_ws a5 cI 4 sf ++ (iw_ws a6 cI 64 vf ++ (jw_ws mb3 cJ 128 md ++ (jw_ws mb4 cJ 4 sh ++ iw_ws mb5 cI 64 ct))))))))))))))))))))))))) (w1 := (mo_ws m0 1 0 0 0 0 0 0 0 0 0 0 a0 a1 a2 a3 a4 a5 a6 a7 a8 a9 mb0 mb1 oc mb2 mb3 mb4 mb5)) (pl := bpool rb lb cJ R Lk) hP hD [23] [0, 1, 2, 3, 4, 5, 6, 7, 8, 9, 10, 11, 12, 13, 14, 15, 16, 17, 18, 19, 20, 21, 22, 24, 25, 26, 27, 28, 29, 30, 31, 32, 33, 34, 35, 36, 37, 38, 39] rfl rfl (by decide) (by decide) hk1 hFc hP1 hD1
  have hP := hP.part (cx := (jw_ws out cJ 1 of ++ (bb_ws b0 bd0 pr0 t0 au0 da .null ++ (rw_ws da cJ (r8 d0 d1 d2 d3 d4 d5 d6 d7) ++ (bd_ws bd0 h0 ro lo 0 cR (rrf rb) (rrf lb) ++ (pr_ws pr0 h0 cm cJ ccf ++ (ha_ws h0 aw ax ay cJ cI w csc cst cL ++ (tt_ws t0 ka aa ba sa .null cJ tZ ++ (au_ws au0 bd0 pr0 tu0 0 ++ (tt_ws tu0 uka uaa uba usa gu cJ tZ ++ (mo_ws m0 1 0 0 0 0 0 0 0 0 0 0 a0 a1 a2 a3 a4 a5 a6 a7 a8 a9 mb0 mb1 oc mb2 mb3 mb4 mb5 ++ (iw_ws a7 cI 256 bf ++ (iw_ws a8 cI 64 sc ++ (iw_ws a9 cI 8 st ++ (iw_ws mb0 cI 8 kS ++ (iw_ws mb1 cI 64 kR ++ (jw_ws a2 cJ 4 tf ++ (jw_ws a0 cJ 1232 nf ++ (jw_ws a1 cJ 616 cf ++ (iw_ws a4 cI 4 kf ++ (jw_ws mb2 cJ 4 ky ++ (jw_ws a3 cJ 16 lf ++ (iw_ws a5 cI 4 sf ++ (iw_ws a6 cI 64 vf ++ (jw_ws mb3 cJ 128 md ++ (jw_ws mb4 cJ 4 sh ++ iw_ws mb5 cI 64 ct)))))))))))))))))))))))))) [0, 1, 2, 3, 4, 5, 6, 7, 8, 9, 10, 11, 12, 13, 14, 15, 16, 17, 18, 19, 20, 21, 22, 39, 23, 24, 25, 26, 27, 28, 29, 30, 31, 32, 33, 34, 35, 36, 37, 38] rfl
  have hD := hD.part (cx := (jw_ws out cJ 1 of ++ (bb_ws b0 bd0 pr0 t0 au0 da .null ++ (rw_ws da cJ (r8 d0 d1 d2 d3 d4 d5 d6 d7) ++ (bd_ws bd0 h0 ro lo 0 cR (rrf rb) (rrf lb) ++ (pr_ws pr0 h0 cm cJ ccf ++ (ha_ws h0 aw ax ay cJ cI w csc cst cL ++ (tt_ws t0 ka aa ba sa .null cJ tZ ++ (au_ws au0 bd0 pr0 tu0 0 ++ (tt_ws tu0 uka uaa uba usa gu cJ tZ ++ (mo_ws m0 1 0 0 0 0 0 0 0 0 0 0 a0 a1 a2 a3 a4 a5 a6 a7 a8 a9 mb0 mb1 oc mb2 mb3 mb4 mb5 ++ (iw_ws a7 cI 256 bf ++ (iw_ws a8 cI 64 sc ++ (iw_ws a9 cI 8 st ++ (iw_ws mb0 cI 8 kS ++ (iw_ws mb1 cI 64 kR ++ (jw_ws a2 cJ 4 tf ++ (jw_ws a0 cJ 1232 nf ++ (jw_ws a1 cJ 616 cf ++ (iw_ws a4 cI 4 kf ++ (jw_ws mb2 cJ 4 ky ++ (jw_ws a3 cJ 16 lf ++ (iw_ws a5 cI 4 sf ++ (iw_ws a6 cI 64 vf ++ (jw_ws mb3 cJ 128 md ++ (jw_ws mb4 cJ 4 sh ++ iw_ws mb5 cI 64 ct)))))))))))))))))))))))))) [0, 1, 2, 3, 4, 5, 6, 7, 8, 9, 10, 11, 12, 13, 14, 15, 16, 17, 18, 19, 20, 21, 22, 39, 23, 24, 25, 26, 27, 28, 29, 30, 31, 32, 33, 34, 35, 36, 37, 38] (by decide) rfl
  generalize H1 = H at hP hS ⊢
  clear hPc hDc hFc hP1 hD1 hK1 ht hk1 hz1
  refine lv_lstore (lv' := [(6, .long r_9), (5, .int 1), (4, .int (nI i)), (3, .ref out), (2, .ref m0), (1, .ref b0), (0, .ref b)]) hx hb d_law_1933 hl (by decide) rfl (fun ls hl => ?_)
  refine lv_aload_n hx hb d_law_1935 rfl (lv_at hl 4 rfl) ?_
  have hPc := hP.sub (ws' := (mo_ws m0 1 0 0 0 0 0 0 0 0 0 0 a0 a1 a2 a3 a4 a5 a6 a7 a8 a9 mb0 mb1 oc mb2 mb3 mb4 mb5)) [23] rfl
  have hKc := hK.sub (tys' := [(cJ, .long), (cI, .int)]) [0, 1] rfl
  refine va_calli (va_runV (As := []) (rest := []) ⟨hx, hb, hml, hown, hts⟩ (c_Bm_thrown l H dC dI cJ cI m0 1 0 0 0 0 0 0 0 0 0 0 a0 a1 a2 a3 a4 a5 a6 a7 a8 a9 mb0 mb1 oc mb2 mb3 mb4 mb5 hPc) (cwV 0 hts (gw_V gk_1004 gk_1005 gk_1006 gk_7 gk_1007) rfl rfl rfl (by decide +kernel) ⟨(Nat.le_of_ble_eq_true rfl), (Nat.le_of_ble_eq_true rfl)⟩) ⟨fun a U g mk q => ⟨q.1, q.2.1, va_K.moved (u := U) (U := U.calling g mk a) (Vm.Alike.refl U.vm) q.2.2⟩, va_recv hK hP (ci := 8) (q0 := 23) rfl rfl, fun U hU hW => ⟨rfl, hU, va_K.moved hW.alike hKc⟩⟩ rfl rfl hl.1 rfl (lv_room (Nat.le_of_ble_eq_true rfl)) d_law_1936 ⟨show cells + 8 + 0 + 0 ≤ 601024 by omega, show slots + 48 + 0 + 0 ≤ 7293034 by omega⟩) hS (fun q _ h => h.elim) (fun q h => h.elim) (fun r_10 w9 t9 H1 locs ht hvm hw9 hB hz1 hk1 hS => ?_)
  obtain rfl : H = H1 := hB.symm.trans ht
  have hw9 : r_10 = 1 := hw9
  subst hw9
  clear hPc hz1 hk1 hB
  refine lv_iload hx hb d_law_1939 (lv_at hl 1 rfl) ?_
  refine lv_icmp_eq (tgt := 1946) hx hb d_law_1941 (by decide) (fun c_11 => ?_) (fun c_11 => ?_)
  · -- taken
    refine lv_iload hx hb d_law_1946 (lv_at hl 1 rfl) ?_
    refine lv_if_ne (tgt := 1962) hx hb d_law_1948 (by decide) (fun c_12 => ?_) (fun c_12 => ?_)
    · -- taken
      refine lv_goto (tgt := 1965) hx hb d_law_1962 (by decide) ?_
      refine W.widen (k := cells + 20) (n := slots + 200) (by omega) (by omega) ?_
      have hI9 : LI dC dI cJ cI cR A out b0 m0 H := LF.mk hP hD
      exact cont _ _ _ hS hI9 (lv_sub hl [2, 3, 4, 5, 6] rfl)
    · -- not taken
      exact absurd c_12 (by decide)
  · -- not taken
    exact absurd c_11 (by decide)
